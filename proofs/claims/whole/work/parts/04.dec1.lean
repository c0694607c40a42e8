theorem dX4_lay_61 : decode cX4_lay 61 = .ok (.imul, 1) := by decide +kernel
theorem dX4_lay_62 : decode cX4_lay 62 = .ok (.i2l, 1) := by decide +kernel
theorem dX4_lay_63 : decode cX4_lay 63 = .ok (.ladd, 1) := by decide +kernel
theorem dX4_lay_64 : decode cX4_lay 64 = .ok (.putfield 44, 3) := by decide +kernel
theorem dX4_lay_67 : decode cX4_lay 67 = .ok (.return_, 1) := by decide +kernel
theorem dX4_decimetres_0 : decode cX4_decimetres 0 = .ok (.aload_n 0, 1) := by decide +kernel
theorem dX4_decimetres_1 : decode cX4_decimetres 1 = .ok (.getfield 33, 3) := by decide +kernel
theorem dX4_decimetres_4 : decode cX4_decimetres 4 = .ok (.aload_n 0, 1) := by decide +kernel
theorem dX4_decimetres_5 : decode cX4_decimetres 5 = .ok (.getfield 29, 3) := by decide +kernel
theorem dX4_decimetres_8 : decode cX4_decimetres 8 = .ok (.isub, 1) := by decide +kernel
theorem dX4_decimetres_9 : decode cX4_decimetres 9 = .ok (.ireturn, 1) := by decide +kernel
set_option maxRecDepth 20000 in
theorem ggX4_offUpper_X6_asideOf : GoodIn wsX4_offUpper wsX6_asideOf := goodIn_r _ [10, 11, 12, 13, 14, 22, 23, 24, 25, 26] (by decide +kernel) (by decide +kernel)
set_option maxRecDepth 20000 in
theorem gX4_offUpper_X6_asideOf : GoodIn wsX4_offUpper (wsV RX4 47 RX6 yX6_asideOf wsX6_asideOf) := goodIn_app (goodIn_of _ (by decide +kernel)) ggX4_offUpper_X6_asideOf
theorem dX4_offUpper_0 : decode cX4_offUpper 0 = .ok (.aload_n 0, 1) := by decide +kernel
theorem dX4_offUpper_1 : decode cX4_offUpper 1 = .ok (.getfield 40, 3) := by decide +kernel
theorem dX4_offUpper_4 : decode cX4_offUpper 4 = .ok (.aload_n 0, 1) := by decide +kernel
theorem dX4_offUpper_5 : decode cX4_offUpper 5 = .ok (.getfield 33, 3) := by decide +kernel
theorem dX4_offUpper_8 : decode cX4_offUpper 8 = .ok (.iload_n 1, 1) := by decide +kernel
theorem dX4_offUpper_9 : decode cX4_offUpper 9 = .ok (.isub, 1) := by decide +kernel
theorem dX4_offUpper_10 : decode cX4_offUpper 10 = .ok (.i2l, 1) := by decide +kernel
theorem dX4_offUpper_11 : decode cX4_offUpper 11 = .ok (.lmul, 1) := by decide +kernel
theorem dX4_offUpper_12 : decode cX4_offUpper 12 = .ok (.aload_n 0, 1) := by decide +kernel
theorem dX4_offUpper_13 : decode cX4_offUpper 13 = .ok (.getfield 44, 3) := by decide +kernel
theorem dX4_offUpper_16 : decode cX4_offUpper 16 = .ok (.iload_n 1, 1) := by decide +kernel
theorem dX4_offUpper_17 : decode cX4_offUpper 17 = .ok (.aload_n 0, 1) := by decide +kernel
theorem dX4_offUpper_18 : decode cX4_offUpper 18 = .ok (.getfield 29, 3) := by decide +kernel
theorem dX4_offUpper_21 : decode cX4_offUpper 21 = .ok (.isub, 1) := by decide +kernel
theorem dX4_offUpper_22 : decode cX4_offUpper 22 = .ok (.i2l, 1) := by decide +kernel
theorem dX4_offUpper_23 : decode cX4_offUpper 23 = .ok (.lmul, 1) := by decide +kernel
theorem dX4_offUpper_24 : decode cX4_offUpper 24 = .ok (.ladd, 1) := by decide +kernel
theorem dX4_offUpper_25 : decode cX4_offUpper 25 = .ok (.aload_n 0, 1) := by decide +kernel
theorem dX4_offUpper_26 : decode cX4_offUpper 26 = .ok (.getfield 9, 3) := by decide +kernel
theorem dX4_offUpper_29 : decode cX4_offUpper 29 = .ok (.iload_n 1, 1) := by decide +kernel
theorem dX4_offUpper_30 : decode cX4_offUpper 30 = .ok (.invokevirtual 47, 3) := by decide +kernel
theorem dX4_offUpper_33 : decode cX4_offUpper 33 = .ok (.aload_n 0, 1) := by decide +kernel
theorem dX4_offUpper_34 : decode cX4_offUpper 34 = .ok (.getfield 33, 3) := by decide +kernel
theorem dX4_offUpper_37 : decode cX4_offUpper 37 = .ok (.aload_n 0, 1) := by decide +kernel
theorem dX4_offUpper_38 : decode cX4_offUpper 38 = .ok (.getfield 29, 3) := by decide +kernel
theorem dX4_offUpper_41 : decode cX4_offUpper 41 = .ok (.isub, 1) := by decide +kernel
theorem dX4_offUpper_42 : decode cX4_offUpper 42 = .ok (.i2l, 1) := by decide +kernel
theorem dX4_offUpper_43 : decode cX4_offUpper 43 = .ok (.lmul, 1) := by decide +kernel
theorem dX4_offUpper_44 : decode cX4_offUpper 44 = .ok (.lsub, 1) := by decide +kernel
theorem dX4_offUpper_45 : decode cX4_offUpper 45 = .ok (.lreturn, 1) := by decide +kernel
theorem dX4_excess_0 : decode cX4_excess 0 = .ok (.aload_n 0, 1) := by decide +kernel
theorem dX4_excess_1 : decode cX4_excess 1 = .ok (.getfield 19, 3) := by decide +kernel
theorem dX4_excess_4 : decode cX4_excess 4 = .ok (.getfield 53, 3) := by decide +kernel
theorem dX4_excess_7 : decode cX4_excess 7 = .ok (.i2l, 1) := by decide +kernel
theorem dX4_excess_8 : decode cX4_excess 8 = .ok (.iload_n 1, 1) := by decide +kernel
theorem dX4_excess_9 : decode cX4_excess 9 = .ok (.aload_n 0, 1) := by decide +kernel
theorem dX4_excess_10 : decode cX4_excess 10 = .ok (.getfield 29, 3) := by decide +kernel
theorem dX4_excess_13 : decode cX4_excess 13 = .ok (.isub, 1) := by decide +kernel
theorem dX4_excess_14 : decode cX4_excess 14 = .ok (.i2l, 1) := by decide +kernel
theorem dX4_excess_15 : decode cX4_excess 15 = .ok (.lmul, 1) := by decide +kernel
theorem dX4_excess_16 : decode cX4_excess 16 = .ok (.aload_n 0, 1) := by decide +kernel
theorem dX4_excess_17 : decode cX4_excess 17 = .ok (.getfield 33, 3) := by decide +kernel
theorem dX4_excess_20 : decode cX4_excess 20 = .ok (.iload_n 1, 1) := by decide +kernel
theorem dX4_excess_21 : decode cX4_excess 21 = .ok (.isub, 1) := by decide +kernel
theorem dX4_excess_22 : decode cX4_excess 22 = .ok (.i2l, 1) := by decide +kernel
theorem dX4_excess_23 : decode cX4_excess 23 = .ok (.lmul, 1) := by decide +kernel
theorem dX4_excess_24 : decode cX4_excess 24 = .ok (.lstore 4, 2) := by decide +kernel
theorem dX4_excess_26 : decode cX4_excess 26 = .ok (.aload_n 0, 1) := by decide +kernel
theorem dX4_excess_27 : decode cX4_excess 27 = .ok (.getfield 19, 3) := by decide +kernel
theorem dX4_excess_30 : decode cX4_excess 30 = .ok (.getfield 58, 3) := by decide +kernel
theorem dX4_excess_33 : decode cX4_excess 33 = .ok (.i2l, 1) := by decide +kernel
theorem dX4_excess_34 : decode cX4_excess 34 = .ok (.aload_n 0, 1) := by decide +kernel
theorem dX4_excess_35 : decode cX4_excess 35 = .ok (.getfield 19, 3) := by decide +kernel
theorem dX4_excess_38 : decode cX4_excess 38 = .ok (.getfield 61, 3) := by decide +kernel
theorem dX4_excess_41 : decode cX4_excess 41 = .ok (.i2l, 1) := by decide +kernel
theorem dX4_excess_42 : decode cX4_excess 42 = .ok (.lmul, 1) := by decide +kernel
theorem dX4_excess_43 : decode cX4_excess 43 = .ok (.lstore 6, 2) := by decide +kernel
theorem dX4_excess_45 : decode cX4_excess 45 = .ok (.lload_n 2, 1) := by decide +kernel
theorem dX4_excess_46 : decode cX4_excess 46 = .ok (.aload_n 0, 1) := by decide +kernel
theorem dX4_excess_47 : decode cX4_excess 47 = .ok (.getfield 19, 3) := by decide +kernel
theorem dX4_excess_50 : decode cX4_excess 50 = .ok (.getfield 61, 3) := by decide +kernel
theorem dX4_excess_53 : decode cX4_excess 53 = .ok (.i2l, 1) := by decide +kernel
theorem dX4_excess_54 : decode cX4_excess 54 = .ok (.lmul, 1) := by decide +kernel
theorem dX4_excess_55 : decode cX4_excess 55 = .ok (.lload 4, 2) := by decide +kernel
theorem dX4_excess_57 : decode cX4_excess 57 = .ok (.lload 6, 2) := by decide +kernel
theorem dX4_excess_59 : decode cX4_excess 59 = .ok (.lsub, 1) := by decide +kernel
theorem dX4_excess_60 : decode cX4_excess 60 = .ok (.aload_n 0, 1) := by decide +kernel
theorem dX4_excess_61 : decode cX4_excess 61 = .ok (.getfield 33, 3) := by decide +kernel
theorem dX4_excess_64 : decode cX4_excess 64 = .ok (.aload_n 0, 1) := by decide +kernel
theorem dX4_excess_65 : decode cX4_excess 65 = .ok (.getfield 29, 3) := by decide +kernel
theorem dX4_excess_68 : decode cX4_excess 68 = .ok (.isub, 1) := by decide +kernel
theorem dX4_excess_69 : decode cX4_excess 69 = .ok (.i2l, 1) := by decide +kernel
theorem dX4_excess_70 : decode cX4_excess 70 = .ok (.lmul, 1) := by decide +kernel
theorem dX4_excess_71 : decode cX4_excess 71 = .ok (.ladd, 1) := by decide +kernel
theorem dX4_excess_72 : decode cX4_excess 72 = .ok (.lreturn, 1) := by decide +kernel
set_option maxRecDepth 20000 in
theorem ggX4_keepsPlace_X4_offUpper : GoodIn wsX4_keepsPlace wsX4_offUpper := goodIn_r _ [9, 10, 11, 12, 13, 14, 15, 16, 17, 18, 19, 20, 21, 22, 23, 32, 33, 34, 35, 36, 37, 38, 39, 40, 41, 42, 43] (by decide +kernel) (by decide +kernel)
set_option maxRecDepth 20000 in
theorem gX4_keepsPlace_X4_offUpper : GoodIn wsX4_keepsPlace (wsV RX4 64 RX4 yX4_offUpper wsX4_offUpper) := goodIn_app (goodIn_of _ (by decide +kernel)) ggX4_keepsPlace_X4_offUpper
set_option maxRecDepth 20000 in
theorem ggX4_keepsPlace_X4_excess : GoodIn wsX4_keepsPlace wsX4_excess := goodIn_r _ [27, 28, 29, 13, 11, 30, 31, 32, 33, 34, 35, 36, 37, 38, 44, 45, 46, 47] (by decide +kernel) (by decide +kernel)
set_option maxRecDepth 20000 in
theorem gX4_keepsPlace_X4_excess : GoodIn wsX4_keepsPlace (wsV RX4 73 RX4 yX4_excess wsX4_excess) := goodIn_app (goodIn_of _ (by decide +kernel)) ggX4_keepsPlace_X4_excess
theorem dX4_keepsPlace_0 : decode cX4_keepsPlace 0 = .ok (.aload_n 0, 1) := by decide +kernel
theorem dX4_keepsPlace_1 : decode cX4_keepsPlace 1 = .ok (.iload_n 1, 1) := by decide +kernel
theorem dX4_keepsPlace_2 : decode cX4_keepsPlace 2 = .ok (.aload_n 0, 1) := by decide +kernel
theorem dX4_keepsPlace_3 : decode cX4_keepsPlace 3 = .ok (.iload_n 1, 1) := by decide +kernel
theorem dX4_keepsPlace_4 : decode cX4_keepsPlace 4 = .ok (.invokevirtual 64, 3) := by decide +kernel
theorem dX4_keepsPlace_7 : decode cX4_keepsPlace 7 = .ok (.invokestatic 67, 3) := by decide +kernel
theorem dX4_keepsPlace_10 : decode cX4_keepsPlace 10 = .ok (.invokevirtual 73, 3) := by decide +kernel
theorem dX4_keepsPlace_13 : decode cX4_keepsPlace 13 = .ok (.lconst 0, 1) := by decide +kernel
theorem dX4_keepsPlace_14 : decode cX4_keepsPlace 14 = .ok (.lcmp, 1) := by decide +kernel
theorem dX4_keepsPlace_15 : decode cX4_keepsPlace 15 = .ok (.ifCond .gt 7, 3) := by decide +kernel
theorem dX4_keepsPlace_18 : decode cX4_keepsPlace 18 = .ok (.iconst 1, 1) := by decide +kernel
theorem dX4_keepsPlace_19 : decode cX4_keepsPlace 19 = .ok (.goto 4, 3) := by decide +kernel
theorem dX4_keepsPlace_22 : decode cX4_keepsPlace 22 = .ok (.iconst 0, 1) := by decide +kernel
theorem dX4_keepsPlace_23 : decode cX4_keepsPlace 23 = .ok (.ireturn, 1) := by decide +kernel
set_option maxRecDepth 20000 in
theorem ggX4_firstNotKept_X4_keepsPlace : GoodIn wsX4_firstNotKept wsX4_keepsPlace := goodIn_r _ [7, 8, 9, 10, 11, 12, 13, 14, 6, 15, 16, 2, 17, 1, 18, 19, 20, 21, 22, 23, 24, 25, 26, 27, 28, 29, 30, 31, 32, 33, 34, 35, 36, 37, 38, 39, 40, 41, 42, 43, 44, 45, 46, 47, 48, 49, 50, 51] (by decide +kernel) (by decide +kernel)
set_option maxRecDepth 20000 in
theorem gX4_firstNotKept_X4_keepsPlace : GoodIn wsX4_firstNotKept (wsV RX4 77 RX4 yX4_keepsPlace wsX4_keepsPlace) := goodIn_app (goodIn_of _ (by decide +kernel)) ggX4_firstNotKept_X4_keepsPlace
theorem dX4_firstNotKept_0 : decode cX4_firstNotKept 0 = .ok (.aload_n 0, 1) := by decide +kernel
theorem dX4_firstNotKept_1 : decode cX4_firstNotKept 1 = .ok (.getfield 29, 3) := by decide +kernel
theorem dX4_firstNotKept_4 : decode cX4_firstNotKept 4 = .ok (.istore_n 1, 1) := by decide +kernel
theorem dX4_firstNotKept_5 : decode cX4_firstNotKept 5 = .ok (.iload_n 1, 1) := by decide +kernel
theorem dX4_firstNotKept_6 : decode cX4_firstNotKept 6 = .ok (.aload_n 0, 1) := by decide +kernel
theorem dX4_firstNotKept_7 : decode cX4_firstNotKept 7 = .ok (.getfield 33, 3) := by decide +kernel
theorem dX4_firstNotKept_10 : decode cX4_firstNotKept 10 = .ok (.if_icmp .gt 19, 3) := by decide +kernel
theorem dX4_firstNotKept_13 : decode cX4_firstNotKept 13 = .ok (.aload_n 0, 1) := by decide +kernel
theorem dX4_firstNotKept_14 : decode cX4_firstNotKept 14 = .ok (.iload_n 1, 1) := by decide +kernel
theorem dX4_firstNotKept_15 : decode cX4_firstNotKept 15 = .ok (.invokevirtual 77, 3) := by decide +kernel
theorem dX4_firstNotKept_18 : decode cX4_firstNotKept 18 = .ok (.ifCond .ne 5, 3) := by decide +kernel
theorem dX4_firstNotKept_21 : decode cX4_firstNotKept 21 = .ok (.iload_n 1, 1) := by decide +kernel
theorem dX4_firstNotKept_22 : decode cX4_firstNotKept 22 = .ok (.ireturn, 1) := by decide +kernel
theorem dX4_firstNotKept_23 : decode cX4_firstNotKept 23 = .ok (.iinc 1 1, 3) := by decide +kernel
theorem dX4_firstNotKept_26 : decode cX4_firstNotKept 26 = .ok (.goto (-21), 3) := by decide +kernel
theorem dX4_firstNotKept_29 : decode cX4_firstNotKept 29 = .ok (.bipush (-6), 2) := by decide +kernel
theorem dX4_firstNotKept_31 : decode cX4_firstNotKept 31 = .ok (.ireturn, 1) := by decide +kernel
set_option maxRecDepth 20000 in
theorem ggX4_isKept_X4_keepsStretch : GoodIn wsX4_isKept wsX4_keepsStretch := goodIn_r _ [14, 15, 16, 17, 13, 18, 19, 20, 21, 22, 23, 24, 25, 26, 27, 1, 28, 2, 5, 29, 30, 31, 32, 33, 34, 35, 36, 37, 38, 39, 40, 41, 3, 42, 43, 44, 45, 46, 47, 48, 49, 50, 51, 52, 53, 54, 55, 56, 61, 62, 63, 64, 65, 57, 58, 59, 60] (by decide +kernel) (by decide +kernel)
set_option maxRecDepth 20000 in
theorem gX4_isKept_X4_keepsStretch : GoodIn wsX4_isKept (wsV RX4 93 RX4 yX4_keepsStretch wsX4_keepsStretch) := goodIn_app (goodIn_of _ (by decide +kernel)) ggX4_isKept_X4_keepsStretch
theorem dX4_isKept_0 : decode cX4_isKept 0 = .ok (.aload_n 0, 1) := by decide +kernel
theorem dX4_isKept_1 : decode cX4_isKept 1 = .ok (.getfield 33, 3) := by decide +kernel
theorem dX4_isKept_4 : decode cX4_isKept 4 = .ok (.aload_n 0, 1) := by decide +kernel
theorem dX4_isKept_5 : decode cX4_isKept 5 = .ok (.getfield 29, 3) := by decide +kernel
theorem dX4_isKept_8 : decode cX4_isKept 8 = .ok (.isub, 1) := by decide +kernel
theorem dX4_isKept_9 : decode cX4_isKept 9 = .ok (.aload_n 0, 1) := by decide +kernel
theorem dX4_isKept_10 : decode cX4_isKept 10 = .ok (.getfield 19, 3) := by decide +kernel
theorem dX4_isKept_13 : decode cX4_isKept 13 = .ok (.getfield 81, 3) := by decide +kernel
theorem dX4_isKept_16 : decode cX4_isKept 16 = .ok (.if_icmp .le 5, 3) := by decide +kernel
theorem dX4_isKept_19 : decode cX4_isKept 19 = .ok (.iconst 0, 1) := by decide +kernel
theorem dX4_isKept_20 : decode cX4_isKept 20 = .ok (.ireturn, 1) := by decide +kernel
theorem dX4_isKept_21 : decode cX4_isKept 21 = .ok (.aload_n 0, 1) := by decide +kernel
theorem dX4_isKept_22 : decode cX4_isKept 22 = .ok (.getfield 29, 3) := by decide +kernel
theorem dX4_isKept_25 : decode cX4_isKept 25 = .ok (.istore_n 1, 1) := by decide +kernel
theorem dX4_isKept_26 : decode cX4_isKept 26 = .ok (.iconst 0, 1) := by decide +kernel
theorem dX4_isKept_27 : decode cX4_isKept 27 = .ok (.istore_n 2, 1) := by decide +kernel
theorem dX4_isKept_28 : decode cX4_isKept 28 = .ok (.iload_n 2, 1) := by decide +kernel
theorem dX4_isKept_29 : decode cX4_isKept 29 = .ok (.aload_n 0, 1) := by decide +kernel
theorem dX4_isKept_30 : decode cX4_isKept 30 = .ok (.getfield 9, 3) := by decide +kernel
theorem dX4_isKept_33 : decode cX4_isKept 33 = .ok (.getfield 84, 3) := by decide +kernel
theorem dX4_isKept_36 : decode cX4_isKept 36 = .ok (.if_icmp .ge 133, 3) := by decide +kernel
theorem dX4_isKept_39 : decode cX4_isKept 39 = .ok (.iload_n 1, 1) := by decide +kernel
theorem dX4_isKept_40 : decode cX4_isKept 40 = .ok (.aload_n 0, 1) := by decide +kernel
theorem dX4_isKept_41 : decode cX4_isKept 41 = .ok (.getfield 33, 3) := by decide +kernel
theorem dX4_isKept_44 : decode cX4_isKept 44 = .ok (.if_icmp .ge 125, 3) := by decide +kernel
theorem dX4_isKept_47 : decode cX4_isKept 47 = .ok (.aload_n 0, 1) := by decide +kernel
theorem dX4_isKept_48 : decode cX4_isKept 48 = .ok (.getfield 9, 3) := by decide +kernel
theorem dX4_isKept_51 : decode cX4_isKept 51 = .ok (.getfield 87, 3) := by decide +kernel
theorem dX4_isKept_54 : decode cX4_isKept 54 = .ok (.iload_n 2, 1) := by decide +kernel
theorem dX4_isKept_55 : decode cX4_isKept 55 = .ok (.iaload, 1) := by decide +kernel
theorem dX4_isKept_56 : decode cX4_isKept 56 = .ok (.aload_n 0, 1) := by decide +kernel
theorem dX4_isKept_57 : decode cX4_isKept 57 = .ok (.getfield 33, 3) := by decide +kernel
theorem dX4_isKept_60 : decode cX4_isKept 60 = .ok (.if_icmp .ge 15, 3) := by decide +kernel
theorem dX4_isKept_63 : decode cX4_isKept 63 = .ok (.aload_n 0, 1) := by decide +kernel
theorem dX4_isKept_64 : decode cX4_isKept 64 = .ok (.getfield 9, 3) := by decide +kernel
theorem dX4_isKept_67 : decode cX4_isKept 67 = .ok (.getfield 87, 3) := by decide +kernel
theorem dX4_isKept_70 : decode cX4_isKept 70 = .ok (.iload_n 2, 1) := by decide +kernel
theorem dX4_isKept_71 : decode cX4_isKept 71 = .ok (.iaload, 1) := by decide +kernel
theorem dX4_isKept_72 : decode cX4_isKept 72 = .ok (.goto 7, 3) := by decide +kernel
theorem dX4_isKept_75 : decode cX4_isKept 75 = .ok (.aload_n 0, 1) := by decide +kernel
theorem dX4_isKept_76 : decode cX4_isKept 76 = .ok (.getfield 33, 3) := by decide +kernel
theorem dX4_isKept_79 : decode cX4_isKept 79 = .ok (.istore_n 3, 1) := by decide +kernel
theorem dX4_isKept_80 : decode cX4_isKept 80 = .ok (.aload_n 0, 1) := by decide +kernel
theorem dX4_isKept_81 : decode cX4_isKept 81 = .ok (.getfield 9, 3) := by decide +kernel
theorem dX4_isKept_84 : decode cX4_isKept 84 = .ok (.getfield 90, 3) := by decide +kernel
theorem dX4_isKept_87 : decode cX4_isKept 87 = .ok (.iload_n 2, 1) := by decide +kernel
theorem dX4_isKept_88 : decode cX4_isKept 88 = .ok (.iaload, 1) := by decide +kernel
theorem dX4_isKept_89 : decode cX4_isKept 89 = .ok (.aload_n 0, 1) := by decide +kernel
theorem dX4_isKept_90 : decode cX4_isKept 90 = .ok (.getfield 33, 3) := by decide +kernel
theorem dX4_isKept_93 : decode cX4_isKept 93 = .ok (.if_icmp .ge 15, 3) := by decide +kernel
theorem dX4_isKept_96 : decode cX4_isKept 96 = .ok (.aload_n 0, 1) := by decide +kernel
theorem dX4_isKept_97 : decode cX4_isKept 97 = .ok (.getfield 9, 3) := by decide +kernel
theorem dX4_isKept_100 : decode cX4_isKept 100 = .ok (.getfield 90, 3) := by decide +kernel
theorem dX4_isKept_103 : decode cX4_isKept 103 = .ok (.iload_n 2, 1) := by decide +kernel
theorem dX4_isKept_104 : decode cX4_isKept 104 = .ok (.iaload, 1) := by decide +kernel
theorem dX4_isKept_105 : decode cX4_isKept 105 = .ok (.goto 7, 3) := by decide +kernel
theorem dX4_isKept_108 : decode cX4_isKept 108 = .ok (.aload_n 0, 1) := by decide +kernel
theorem dX4_isKept_109 : decode cX4_isKept 109 = .ok (.getfield 33, 3) := by decide +kernel
theorem dX4_isKept_112 : decode cX4_isKept 112 = .ok (.istore 4, 2) := by decide +kernel
theorem dX4_isKept_114 : decode cX4_isKept 114 = .ok (.iload_n 3, 1) := by decide +kernel
theorem dX4_isKept_115 : decode cX4_isKept 115 = .ok (.iload_n 1, 1) := by decide +kernel
theorem dX4_isKept_116 : decode cX4_isKept 116 = .ok (.if_icmp .le 17, 3) := by decide +kernel
theorem dX4_isKept_119 : decode cX4_isKept 119 = .ok (.aload_n 0, 1) := by decide +kernel
theorem dX4_isKept_120 : decode cX4_isKept 120 = .ok (.iload_n 1, 1) := by decide +kernel
theorem dX4_isKept_121 : decode cX4_isKept 121 = .ok (.iload_n 3, 1) := by decide +kernel
theorem dX4_isKept_122 : decode cX4_isKept 122 = .ok (.iconst 0, 1) := by decide +kernel
theorem dX4_isKept_123 : decode cX4_isKept 123 = .ok (.invokevirtual 93, 3) := by decide +kernel
theorem dX4_isKept_126 : decode cX4_isKept 126 = .ok (.ifCond .ne 5, 3) := by decide +kernel
theorem dX4_isKept_129 : decode cX4_isKept 129 = .ok (.iconst 0, 1) := by decide +kernel
theorem dX4_isKept_130 : decode cX4_isKept 130 = .ok (.ireturn, 1) := by decide +kernel
theorem dX4_isKept_131 : decode cX4_isKept 131 = .ok (.iload_n 3, 1) := by decide +kernel
theorem dX4_isKept_132 : decode cX4_isKept 132 = .ok (.istore_n 1, 1) := by decide +kernel
theorem dX4_isKept_133 : decode cX4_isKept 133 = .ok (.iload 4, 2) := by decide +kernel
theorem dX4_isKept_135 : decode cX4_isKept 135 = .ok (.iload_n 1, 1) := by decide +kernel
theorem dX4_isKept_136 : decode cX4_isKept 136 = .ok (.if_icmp .le 27, 3) := by decide +kernel
theorem dX4_isKept_139 : decode cX4_isKept 139 = .ok (.aload_n 0, 1) := by decide +kernel
theorem dX4_isKept_140 : decode cX4_isKept 140 = .ok (.iload_n 1, 1) := by decide +kernel
theorem dX4_isKept_141 : decode cX4_isKept 141 = .ok (.iload 4, 2) := by decide +kernel
theorem dX4_isKept_143 : decode cX4_isKept 143 = .ok (.aload_n 0, 1) := by decide +kernel
theorem dX4_isKept_144 : decode cX4_isKept 144 = .ok (.getfield 9, 3) := by decide +kernel
theorem dX4_isKept_147 : decode cX4_isKept 147 = .ok (.getfield 97, 3) := by decide +kernel
theorem dX4_isKept_150 : decode cX4_isKept 150 = .ok (.iload_n 2, 1) := by decide +kernel
theorem dX4_isKept_151 : decode cX4_isKept 151 = .ok (.iaload, 1) := by decide +kernel
theorem dX4_isKept_152 : decode cX4_isKept 152 = .ok (.invokevirtual 93, 3) := by decide +kernel
theorem dX4_isKept_155 : decode cX4_isKept 155 = .ok (.ifCond .ne 5, 3) := by decide +kernel
theorem dX4_isKept_158 : decode cX4_isKept 158 = .ok (.iconst 0, 1) := by decide +kernel
theorem dX4_isKept_159 : decode cX4_isKept 159 = .ok (.ireturn, 1) := by decide +kernel
theorem dX4_isKept_160 : decode cX4_isKept 160 = .ok (.iload 4, 2) := by decide +kernel
theorem dX4_isKept_162 : decode cX4_isKept 162 = .ok (.istore_n 1, 1) := by decide +kernel
theorem dX4_isKept_163 : decode cX4_isKept 163 = .ok (.iinc 2 1, 3) := by decide +kernel
theorem dX4_isKept_166 : decode cX4_isKept 166 = .ok (.goto (-138), 3) := by decide +kernel
theorem dX4_isKept_169 : decode cX4_isKept 169 = .ok (.iload_n 1, 1) := by decide +kernel
theorem dX4_isKept_170 : decode cX4_isKept 170 = .ok (.aload_n 0, 1) := by decide +kernel
theorem dX4_isKept_171 : decode cX4_isKept 171 = .ok (.getfield 33, 3) := by decide +kernel
theorem dX4_isKept_174 : decode cX4_isKept 174 = .ok (.if_icmp .ge 16, 3) := by decide +kernel
theorem dX4_isKept_177 : decode cX4_isKept 177 = .ok (.aload_n 0, 1) := by decide +kernel
theorem dX4_isKept_178 : decode cX4_isKept 178 = .ok (.iload_n 1, 1) := by decide +kernel
theorem dX4_isKept_179 : decode cX4_isKept 179 = .ok (.aload_n 0, 1) := by decide +kernel
theorem dX4_isKept_180 : decode cX4_isKept 180 = .ok (.getfield 33, 3) := by decide +kernel
theorem dX4_isKept_183 : decode cX4_isKept 183 = .ok (.iconst 0, 1) := by decide +kernel
theorem dX4_isKept_184 : decode cX4_isKept 184 = .ok (.invokevirtual 93, 3) := by decide +kernel
theorem dX4_isKept_187 : decode cX4_isKept 187 = .ok (.ifCond .eq 7, 3) := by decide +kernel
theorem dX4_isKept_190 : decode cX4_isKept 190 = .ok (.iconst 1, 1) := by decide +kernel
theorem dX4_isKept_191 : decode cX4_isKept 191 = .ok (.goto 4, 3) := by decide +kernel
theorem dX4_isKept_194 : decode cX4_isKept 194 = .ok (.iconst 0, 1) := by decide +kernel
theorem dX4_isKept_195 : decode cX4_isKept 195 = .ok (.ireturn, 1) := by decide +kernel
set_option maxRecDepth 20000 in
theorem ggX4_keepsStretch_X4_keepsPlace : GoodIn wsX4_keepsStretch wsX4_keepsPlace := goodIn_r _ [5, 6, 7, 8, 9, 10, 11, 12, 4, 13, 14, 15, 16, 17, 18, 19, 20, 21, 22, 23, 24, 25, 26, 27, 28, 29, 30, 31, 32, 33, 34, 35, 41, 42, 43, 44, 45, 46, 47, 48, 49, 50, 51, 52, 53, 54, 55, 56] (by decide +kernel) (by decide +kernel)
set_option maxRecDepth 20000 in
theorem gX4_keepsStretch_X4_keepsPlace : GoodIn wsX4_keepsStretch (wsV RX4 77 RX4 yX4_keepsPlace wsX4_keepsPlace) := goodIn_app (goodIn_of _ (by decide +kernel)) ggX4_keepsStretch_X4_keepsPlace
set_option maxRecDepth 20000 in
theorem ggX4_keepsStretch_X4_keepsTop : GoodIn wsX4_keepsStretch wsX4_keepsTop := goodIn_r _ [39, 40, 15, 17, 32, 35, 33, 10, 11, 12, 4, 13, 14, 16, 18, 19, 20, 21, 22, 23, 24, 25, 26, 27, 28, 29, 30, 31, 34, 41, 42, 43, 44, 45, 46, 47, 53, 54, 55, 56, 48, 49, 50, 51, 52] (by decide +kernel) (by decide +kernel)
set_option maxRecDepth 20000 in
theorem gX4_keepsStretch_X4_keepsTop : GoodIn wsX4_keepsStretch (wsV RX4 100 RX4 yX4_keepsTop wsX4_keepsTop) := goodIn_app (goodIn_of _ (by decide +kernel)) ggX4_keepsStretch_X4_keepsTop
theorem dX4_keepsStretch_0 : decode cX4_keepsStretch 0 = .ok (.aload_n 0, 1) := by decide +kernel
theorem dX4_keepsStretch_1 : decode cX4_keepsStretch 1 = .ok (.iload_n 1, 1) := by decide +kernel
theorem dX4_keepsStretch_2 : decode cX4_keepsStretch 2 = .ok (.invokevirtual 77, 3) := by decide +kernel
theorem dX4_keepsStretch_5 : decode cX4_keepsStretch 5 = .ok (.ifCond .eq 37, 3) := by decide +kernel
theorem dX4_keepsStretch_8 : decode cX4_keepsStretch 8 = .ok (.aload_n 0, 1) := by decide +kernel
theorem dX4_keepsStretch_9 : decode cX4_keepsStretch 9 = .ok (.iload_n 2, 1) := by decide +kernel
theorem dX4_keepsStretch_10 : decode cX4_keepsStretch 10 = .ok (.invokevirtual 77, 3) := by decide +kernel
theorem dX4_keepsStretch_13 : decode cX4_keepsStretch 13 = .ok (.ifCond .eq 29, 3) := by decide +kernel
theorem dX4_keepsStretch_16 : decode cX4_keepsStretch 16 = .ok (.aload_n 0, 1) := by decide +kernel
theorem dX4_keepsStretch_17 : decode cX4_keepsStretch 17 = .ok (.iload_n 1, 1) := by decide +kernel
theorem dX4_keepsStretch_18 : decode cX4_keepsStretch 18 = .ok (.iload_n 2, 1) := by decide +kernel
theorem dX4_keepsStretch_19 : decode cX4_keepsStretch 19 = .ok (.iload_n 3, 1) := by decide +kernel
theorem dX4_keepsStretch_20 : decode cX4_keepsStretch 20 = .ok (.iconst 1, 1) := by decide +kernel
theorem dX4_keepsStretch_21 : decode cX4_keepsStretch 21 = .ok (.invokevirtual 100, 3) := by decide +kernel
theorem dX4_keepsStretch_24 : decode cX4_keepsStretch 24 = .ok (.ifCond .eq 18, 3) := by decide +kernel
theorem dX4_keepsStretch_27 : decode cX4_keepsStretch 27 = .ok (.aload_n 0, 1) := by decide +kernel
theorem dX4_keepsStretch_28 : decode cX4_keepsStretch 28 = .ok (.iload_n 1, 1) := by decide +kernel
theorem dX4_keepsStretch_29 : decode cX4_keepsStretch 29 = .ok (.iload_n 2, 1) := by decide +kernel
theorem dX4_keepsStretch_30 : decode cX4_keepsStretch 30 = .ok (.iload_n 3, 1) := by decide +kernel
theorem dX4_keepsStretch_31 : decode cX4_keepsStretch 31 = .ok (.iconst (-1), 1) := by decide +kernel
theorem dX4_keepsStretch_32 : decode cX4_keepsStretch 32 = .ok (.invokevirtual 100, 3) := by decide +kernel
theorem dX4_keepsStretch_35 : decode cX4_keepsStretch 35 = .ok (.ifCond .eq 7, 3) := by decide +kernel
theorem dX4_keepsStretch_38 : decode cX4_keepsStretch 38 = .ok (.iconst 1, 1) := by decide +kernel
theorem dX4_keepsStretch_39 : decode cX4_keepsStretch 39 = .ok (.goto 4, 3) := by decide +kernel
theorem dX4_keepsStretch_42 : decode cX4_keepsStretch 42 = .ok (.iconst 0, 1) := by decide +kernel
theorem dX4_keepsStretch_43 : decode cX4_keepsStretch 43 = .ok (.ireturn, 1) := by decide +kernel
set_option maxRecDepth 20000 in
theorem ggX4_keepsTop_X4_offUpper : GoodIn wsX4_keepsTop wsX4_offUpper := goodIn_r _ [11, 12, 2, 13, 3, 14, 15, 16, 17, 18, 19, 20, 21, 22, 23, 29, 30, 31, 32, 33, 34, 35, 40, 41, 42, 43, 44] (by decide +kernel) (by decide +kernel)
set_option maxRecDepth 20000 in
theorem gX4_keepsTop_X4_offUpper : GoodIn wsX4_keepsTop (wsV RX4 64 RX4 yX4_offUpper wsX4_offUpper) := goodIn_app (goodIn_of _ (by decide +kernel)) ggX4_keepsTop_X4_offUpper
set_option maxRecDepth 20000 in
theorem ggX4_keepsTop_X4_excess : GoodIn wsX4_keepsTop wsX4_excess := goodIn_r _ [27, 4, 6, 3, 2, 28, 5, 29, 30, 31, 32, 33, 34, 35, 36, 37, 38, 39] (by decide +kernel) (by decide +kernel)
set_option maxRecDepth 20000 in
theorem gX4_keepsTop_X4_excess : GoodIn wsX4_keepsTop (wsV RX4 73 RX4 yX4_excess wsX4_excess) := goodIn_app (goodIn_of _ (by decide +kernel)) ggX4_keepsTop_X4_excess
theorem dX4_keepsTop_0 : decode cX4_keepsTop 0 = .ok (.ldc2_w 104, 3) := by decide +kernel
theorem dX4_keepsTop_3 : decode cX4_keepsTop 3 = .ok (.aload_n 0, 1) := by decide +kernel
theorem dX4_keepsTop_4 : decode cX4_keepsTop 4 = .ok (.getfield 33, 3) := by decide +kernel
theorem dX4_keepsTop_7 : decode cX4_keepsTop 7 = .ok (.aload_n 0, 1) := by decide +kernel
theorem dX4_keepsTop_8 : decode cX4_keepsTop 8 = .ok (.getfield 29, 3) := by decide +kernel
theorem dX4_keepsTop_11 : decode cX4_keepsTop 11 = .ok (.isub, 1) := by decide +kernel
theorem dX4_keepsTop_12 : decode cX4_keepsTop 12 = .ok (.i2l, 1) := by decide +kernel
theorem dX4_keepsTop_13 : decode cX4_keepsTop 13 = .ok (.lmul, 1) := by decide +kernel
theorem dX4_keepsTop_14 : decode cX4_keepsTop 14 = .ok (.iload 4, 2) := by decide +kernel
theorem dX4_keepsTop_16 : decode cX4_keepsTop 16 = .ok (.iload_n 3, 1) := by decide +kernel
theorem dX4_keepsTop_17 : decode cX4_keepsTop 17 = .ok (.imul, 1) := by decide +kernel
theorem dX4_keepsTop_18 : decode cX4_keepsTop 18 = .ok (.aload_n 0, 1) := by decide +kernel
theorem dX4_keepsTop_19 : decode cX4_keepsTop 19 = .ok (.getfield 19, 3) := by decide +kernel
theorem dX4_keepsTop_22 : decode cX4_keepsTop 22 = .ok (.getfield 61, 3) := by decide +kernel
theorem dX4_keepsTop_25 : decode cX4_keepsTop 25 = .ok (.imul, 1) := by decide +kernel
theorem dX4_keepsTop_26 : decode cX4_keepsTop 26 = .ok (.aload_n 0, 1) := by decide +kernel
theorem dX4_keepsTop_27 : decode cX4_keepsTop 27 = .ok (.getfield 19, 3) := by decide +kernel
theorem dX4_keepsTop_30 : decode cX4_keepsTop 30 = .ok (.getfield 53, 3) := by decide +kernel
theorem dX4_keepsTop_33 : decode cX4_keepsTop 33 = .ok (.iadd, 1) := by decide +kernel
theorem dX4_keepsTop_34 : decode cX4_keepsTop 34 = .ok (.i2l, 1) := by decide +kernel
theorem dX4_keepsTop_35 : decode cX4_keepsTop 35 = .ok (.lmul, 1) := by decide +kernel
theorem dX4_keepsTop_36 : decode cX4_keepsTop 36 = .ok (.lstore 5, 2) := by decide +kernel
theorem dX4_keepsTop_38 : decode cX4_keepsTop 38 = .ok (.lload 5, 2) := by decide +kernel
theorem dX4_keepsTop_40 : decode cX4_keepsTop 40 = .ok (.lconst 0, 1) := by decide +kernel
theorem dX4_keepsTop_41 : decode cX4_keepsTop 41 = .ok (.lcmp, 1) := by decide +kernel
theorem dX4_keepsTop_42 : decode cX4_keepsTop 42 = .ok (.ifCond .le 10, 3) := by decide +kernel
theorem dX4_keepsTop_45 : decode cX4_keepsTop 45 = .ok (.iload_n 2, 1) := by decide +kernel
theorem dX4_keepsTop_46 : decode cX4_keepsTop 46 = .ok (.iload_n 1, 1) := by decide +kernel
theorem dX4_keepsTop_47 : decode cX4_keepsTop 47 = .ok (.isub, 1) := by decide +kernel
theorem dX4_keepsTop_48 : decode cX4_keepsTop 48 = .ok (.iconst 2, 1) := by decide +kernel
theorem dX4_keepsTop_49 : decode cX4_keepsTop 49 = .ok (.if_icmp .ge 5, 3) := by decide +kernel
theorem dX4_keepsTop_52 : decode cX4_keepsTop 52 = .ok (.iconst 1, 1) := by decide +kernel
theorem dX4_keepsTop_53 : decode cX4_keepsTop 53 = .ok (.ireturn, 1) := by decide +kernel
theorem dX4_keepsTop_54 : decode cX4_keepsTop 54 = .ok (.aload_n 0, 1) := by decide +kernel
theorem dX4_keepsTop_55 : decode cX4_keepsTop 55 = .ok (.iload_n 1, 1) := by decide +kernel
theorem dX4_keepsTop_56 : decode cX4_keepsTop 56 = .ok (.iconst 1, 1) := by decide +kernel
theorem dX4_keepsTop_57 : decode cX4_keepsTop 57 = .ok (.iadd, 1) := by decide +kernel
theorem dX4_keepsTop_58 : decode cX4_keepsTop 58 = .ok (.iload 4, 2) := by decide +kernel
theorem dX4_keepsTop_60 : decode cX4_keepsTop 60 = .ok (.i2l, 1) := by decide +kernel
theorem dX4_keepsTop_61 : decode cX4_keepsTop 61 = .ok (.aload_n 0, 1) := by decide +kernel
theorem dX4_keepsTop_62 : decode cX4_keepsTop 62 = .ok (.iload_n 1, 1) := by decide +kernel
theorem dX4_keepsTop_63 : decode cX4_keepsTop 63 = .ok (.iconst 1, 1) := by decide +kernel
theorem dX4_keepsTop_64 : decode cX4_keepsTop 64 = .ok (.iadd, 1) := by decide +kernel
theorem dX4_keepsTop_65 : decode cX4_keepsTop 65 = .ok (.invokevirtual 64, 3) := by decide +kernel
theorem dX4_keepsTop_68 : decode cX4_keepsTop 68 = .ok (.lmul, 1) := by decide +kernel
theorem dX4_keepsTop_69 : decode cX4_keepsTop 69 = .ok (.invokevirtual 73, 3) := by decide +kernel
theorem dX4_keepsTop_72 : decode cX4_keepsTop 72 = .ok (.aload_n 0, 1) := by decide +kernel
theorem dX4_keepsTop_73 : decode cX4_keepsTop 73 = .ok (.iload_n 1, 1) := by decide +kernel
theorem dX4_keepsTop_74 : decode cX4_keepsTop 74 = .ok (.iload 4, 2) := by decide +kernel
theorem dX4_keepsTop_76 : decode cX4_keepsTop 76 = .ok (.i2l, 1) := by decide +kernel
theorem dX4_keepsTop_77 : decode cX4_keepsTop 77 = .ok (.aload_n 0, 1) := by decide +kernel
theorem dX4_keepsTop_78 : decode cX4_keepsTop 78 = .ok (.iload_n 1, 1) := by decide +kernel
theorem dX4_keepsTop_79 : decode cX4_keepsTop 79 = .ok (.invokevirtual 64, 3) := by decide +kernel
theorem dX4_keepsTop_82 : decode cX4_keepsTop 82 = .ok (.lmul, 1) := by decide +kernel
theorem dX4_keepsTop_83 : decode cX4_keepsTop 83 = .ok (.invokevirtual 73, 3) := by decide +kernel
theorem dX4_keepsTop_86 : decode cX4_keepsTop 86 = .ok (.lsub, 1) := by decide +kernel
theorem dX4_keepsTop_87 : decode cX4_keepsTop 87 = .ok (.lstore 7, 2) := by decide +kernel
theorem dX4_keepsTop_89 : decode cX4_keepsTop 89 = .ok (.lload 7, 2) := by decide +kernel
theorem dX4_keepsTop_91 : decode cX4_keepsTop 91 = .ok (.lconst 0, 1) := by decide +kernel
theorem dX4_keepsTop_92 : decode cX4_keepsTop 92 = .ok (.lcmp, 1) := by decide +kernel
theorem dX4_keepsTop_93 : decode cX4_keepsTop 93 = .ok (.ifCond .gt 5, 3) := by decide +kernel
theorem dX4_keepsTop_96 : decode cX4_keepsTop 96 = .ok (.iconst 1, 1) := by decide +kernel
theorem dX4_keepsTop_97 : decode cX4_keepsTop 97 = .ok (.ireturn, 1) := by decide +kernel
theorem dX4_keepsTop_98 : decode cX4_keepsTop 98 = .ok (.lload 7, 2) := by decide +kernel
theorem dX4_keepsTop_100 : decode cX4_keepsTop 100 = .ok (.lload 5, 2) := by decide +kernel
theorem dX4_keepsTop_102 : decode cX4_keepsTop 102 = .ok (.ladd, 1) := by decide +kernel
theorem dX4_keepsTop_103 : decode cX4_keepsTop 103 = .ok (.lconst 1, 1) := by decide +kernel
theorem dX4_keepsTop_104 : decode cX4_keepsTop 104 = .ok (.lsub, 1) := by decide +kernel
theorem dX4_keepsTop_105 : decode cX4_keepsTop 105 = .ok (.lload 5, 2) := by decide +kernel
theorem dX4_keepsTop_107 : decode cX4_keepsTop 107 = .ok (.ldiv, 1) := by decide +kernel
theorem dX4_keepsTop_108 : decode cX4_keepsTop 108 = .ok (.lstore 9, 2) := by decide +kernel
theorem dX4_keepsTop_110 : decode cX4_keepsTop 110 = .ok (.lload 9, 2) := by decide +kernel
theorem dX4_keepsTop_112 : decode cX4_keepsTop 112 = .ok (.iload_n 2, 1) := by decide +kernel
theorem dX4_keepsTop_113 : decode cX4_keepsTop 113 = .ok (.iload_n 1, 1) := by decide +kernel
theorem dX4_keepsTop_114 : decode cX4_keepsTop 114 = .ok (.isub, 1) := by decide +kernel
theorem dX4_keepsTop_115 : decode cX4_keepsTop 115 = .ok (.i2l, 1) := by decide +kernel
theorem dX4_keepsTop_116 : decode cX4_keepsTop 116 = .ok (.lcmp, 1) := by decide +kernel
theorem dX4_keepsTop_117 : decode cX4_keepsTop 117 = .ok (.ifCond .lt 5, 3) := by decide +kernel
theorem dX4_keepsTop_120 : decode cX4_keepsTop 120 = .ok (.iconst 1, 1) := by decide +kernel
theorem dX4_keepsTop_121 : decode cX4_keepsTop 121 = .ok (.ireturn, 1) := by decide +kernel
theorem dX4_keepsTop_122 : decode cX4_keepsTop 122 = .ok (.iload_n 1, 1) := by decide +kernel
theorem dX4_keepsTop_123 : decode cX4_keepsTop 123 = .ok (.lload 9, 2) := by decide +kernel
theorem dX4_keepsTop_125 : decode cX4_keepsTop 125 = .ok (.l2i, 1) := by decide +kernel
theorem dX4_keepsTop_126 : decode cX4_keepsTop 126 = .ok (.iadd, 1) := by decide +kernel
theorem dX4_keepsTop_127 : decode cX4_keepsTop 127 = .ok (.istore 11, 2) := by decide +kernel
theorem dX4_keepsTop_129 : decode cX4_keepsTop 129 = .ok (.aload_n 0, 1) := by decide +kernel
theorem dX4_keepsTop_130 : decode cX4_keepsTop 130 = .ok (.iload 11, 2) := by decide +kernel
theorem dX4_keepsTop_132 : decode cX4_keepsTop 132 = .ok (.iload 4, 2) := by decide +kernel
theorem dX4_keepsTop_134 : decode cX4_keepsTop 134 = .ok (.i2l, 1) := by decide +kernel
theorem dX4_keepsTop_135 : decode cX4_keepsTop 135 = .ok (.aload_n 0, 1) := by decide +kernel
theorem dX4_keepsTop_136 : decode cX4_keepsTop 136 = .ok (.iload 11, 2) := by decide +kernel
theorem dX4_keepsTop_138 : decode cX4_keepsTop 138 = .ok (.invokevirtual 64, 3) := by decide +kernel
theorem dX4_keepsTop_141 : decode cX4_keepsTop 141 = .ok (.lmul, 1) := by decide +kernel
theorem dX4_keepsTop_142 : decode cX4_keepsTop 142 = .ok (.invokevirtual 73, 3) := by decide +kernel
theorem dX4_keepsTop_145 : decode cX4_keepsTop 145 = .ok (.lconst 0, 1) := by decide +kernel
theorem dX4_keepsTop_146 : decode cX4_keepsTop 146 = .ok (.lcmp, 1) := by decide +kernel
theorem dX4_keepsTop_147 : decode cX4_keepsTop 147 = .ok (.ifCond .gt 7, 3) := by decide +kernel
theorem dX4_keepsTop_150 : decode cX4_keepsTop 150 = .ok (.iconst 1, 1) := by decide +kernel
theorem dX4_keepsTop_151 : decode cX4_keepsTop 151 = .ok (.goto 4, 3) := by decide +kernel
theorem dX4_keepsTop_154 : decode cX4_keepsTop 154 = .ok (.iconst 0, 1) := by decide +kernel
theorem dX4_keepsTop_155 : decode cX4_keepsTop 155 = .ok (.ireturn, 1) := by decide +kernel
theorem dX5_init_0 : decode cX5_init 0 = .ok (.aload_n 0, 1) := by decide +kernel
theorem dX5_init_1 : decode cX5_init 1 = .ok (.invokespecial 3, 3) := by decide +kernel
theorem dX5_init_4 : decode cX5_init 4 = .ok (.aload_n 0, 1) := by decide +kernel
theorem dX5_init_5 : decode cX5_init 5 = .ok (.iconst 0, 1) := by decide +kernel
theorem dX5_init_6 : decode cX5_init 6 = .ok (.putfield 9, 3) := by decide +kernel
theorem dX5_init_9 : decode cX5_init 9 = .ok (.aload_n 0, 1) := by decide +kernel
theorem dX5_init_10 : decode cX5_init 10 = .ok (.sipush 10000, 3) := by decide +kernel
theorem dX5_init_13 : decode cX5_init 13 = .ok (.putfield 15, 3) := by decide +kernel
theorem dX5_init_16 : decode cX5_init 16 = .ok (.aload_n 0, 1) := by decide +kernel
theorem dX5_init_17 : decode cX5_init 17 = .ok (.ldc 18, 2) := by decide +kernel
theorem dX5_init_19 : decode cX5_init 19 = .ok (.putfield 19, 3) := by decide +kernel
theorem dX5_init_22 : decode cX5_init 22 = .ok (.aload_n 0, 1) := by decide +kernel
theorem dX5_init_23 : decode cX5_init 23 = .ok (.sipush 600, 3) := by decide +kernel
theorem dX5_init_26 : decode cX5_init 26 = .ok (.putfield 22, 3) := by decide +kernel
theorem dX5_init_29 : decode cX5_init 29 = .ok (.return_, 1) := by decide +kernel
theorem dX6_init_0 : decode cX6_init 0 = .ok (.aload_n 0, 1) := by decide +kernel
theorem dX6_init_1 : decode cX6_init 1 = .ok (.invokespecial 3, 3) := by decide +kernel
theorem dX6_init_4 : decode cX6_init 4 = .ok (.aload_n 0, 1) := by decide +kernel
theorem dX6_init_5 : decode cX6_init 5 = .ok (.sipush 1000, 3) := by decide +kernel
theorem dX6_init_8 : decode cX6_init 8 = .ok (.putfield 9, 3) := by decide +kernel
theorem dX6_init_11 : decode cX6_init 11 = .ok (.aload_n 0, 1) := by decide +kernel
theorem dX6_init_12 : decode cX6_init 12 = .ok (.bipush 8, 2) := by decide +kernel
theorem dX6_init_14 : decode cX6_init 14 = .ok (.newarray .int, 2) := by decide +kernel
theorem dX6_init_16 : decode cX6_init 16 = .ok (.putfield 15, 3) := by decide +kernel
theorem dX6_init_19 : decode cX6_init 19 = .ok (.aload_n 0, 1) := by decide +kernel
theorem dX6_init_20 : decode cX6_init 20 = .ok (.bipush 8, 2) := by decide +kernel
theorem dX6_init_22 : decode cX6_init 22 = .ok (.newarray .int, 2) := by decide +kernel
theorem dX6_init_24 : decode cX6_init 24 = .ok (.putfield 19, 3) := by decide +kernel
theorem dX6_init_27 : decode cX6_init 27 = .ok (.aload_n 0, 1) := by decide +kernel
theorem dX6_init_28 : decode cX6_init 28 = .ok (.bipush 8, 2) := by decide +kernel
theorem dX6_init_30 : decode cX6_init 30 = .ok (.newarray .int, 2) := by decide +kernel
theorem dX6_init_32 : decode cX6_init 32 = .ok (.putfield 22, 3) := by decide +kernel
theorem dX6_init_35 : decode cX6_init 35 = .ok (.return_, 1) := by decide +kernel
theorem dX6_has_0 : decode cX6_has 0 = .ok (.iload_n 1, 1) := by decide +kernel
theorem dX6_has_1 : decode cX6_has 1 = .ok (.ifCond .lt 15, 3) := by decide +kernel
theorem dX6_has_4 : decode cX6_has 4 = .ok (.iload_n 1, 1) := by decide +kernel
theorem dX6_has_5 : decode cX6_has 5 = .ok (.aload_n 0, 1) := by decide +kernel
theorem dX6_has_6 : decode cX6_has 6 = .ok (.getfield 9, 3) := by decide +kernel
theorem dX6_has_9 : decode cX6_has 9 = .ok (.if_icmp .gt 7, 3) := by decide +kernel
theorem dX6_has_12 : decode cX6_has 12 = .ok (.iconst 1, 1) := by decide +kernel
theorem dX6_has_13 : decode cX6_has 13 = .ok (.goto 4, 3) := by decide +kernel
theorem dX6_has_16 : decode cX6_has 16 = .ok (.iconst 0, 1) := by decide +kernel
theorem dX6_has_17 : decode cX6_has 17 = .ok (.ireturn, 1) := by decide +kernel
theorem dX6_isBentWithin_0 : decode cX6_isBentWithin 0 = .ok (.iconst 0, 1) := by decide +kernel
theorem dX6_isBentWithin_1 : decode cX6_isBentWithin 1 = .ok (.istore_n 3, 1) := by decide +kernel
theorem dX6_isBentWithin_2 : decode cX6_isBentWithin 2 = .ok (.iload_n 3, 1) := by decide +kernel
theorem dX6_isBentWithin_3 : decode cX6_isBentWithin 3 = .ok (.aload_n 0, 1) := by decide +kernel
theorem dX6_isBentWithin_4 : decode cX6_isBentWithin 4 = .ok (.getfield 25, 3) := by decide +kernel
theorem dX6_isBentWithin_7 : decode cX6_isBentWithin 7 = .ok (.if_icmp .ge 31, 3) := by decide +kernel
theorem dX6_isBentWithin_10 : decode cX6_isBentWithin 10 = .ok (.iload_n 1, 1) := by decide +kernel
theorem dX6_isBentWithin_11 : decode cX6_isBentWithin 11 = .ok (.aload_n 0, 1) := by decide +kernel
theorem dX6_isBentWithin_12 : decode cX6_isBentWithin 12 = .ok (.getfield 19, 3) := by decide +kernel
theorem dX6_isBentWithin_15 : decode cX6_isBentWithin 15 = .ok (.iload_n 3, 1) := by decide +kernel
theorem dX6_isBentWithin_16 : decode cX6_isBentWithin 16 = .ok (.iaload, 1) := by decide +kernel
theorem dX6_isBentWithin_17 : decode cX6_isBentWithin 17 = .ok (.if_icmp .ge 15, 3) := by decide +kernel
theorem dX6_isBentWithin_20 : decode cX6_isBentWithin 20 = .ok (.aload_n 0, 1) := by decide +kernel
theorem dX6_isBentWithin_21 : decode cX6_isBentWithin 21 = .ok (.getfield 15, 3) := by decide +kernel
theorem dX6_isBentWithin_24 : decode cX6_isBentWithin 24 = .ok (.iload_n 3, 1) := by decide +kernel
theorem dX6_isBentWithin_25 : decode cX6_isBentWithin 25 = .ok (.iaload, 1) := by decide +kernel
theorem dX6_isBentWithin_26 : decode cX6_isBentWithin 26 = .ok (.iload_n 2, 1) := by decide +kernel
theorem dX6_isBentWithin_27 : decode cX6_isBentWithin 27 = .ok (.if_icmp .ge 5, 3) := by decide +kernel
theorem dX6_isBentWithin_30 : decode cX6_isBentWithin 30 = .ok (.iconst 1, 1) := by decide +kernel
theorem dX6_isBentWithin_31 : decode cX6_isBentWithin 31 = .ok (.ireturn, 1) := by decide +kernel
theorem dX6_isBentWithin_32 : decode cX6_isBentWithin 32 = .ok (.iinc 3 1, 3) := by decide +kernel
theorem dX6_isBentWithin_35 : decode cX6_isBentWithin 35 = .ok (.goto (-33), 3) := by decide +kernel
theorem dX6_isBentWithin_38 : decode cX6_isBentWithin 38 = .ok (.iconst 0, 1) := by decide +kernel
theorem dX6_isBentWithin_39 : decode cX6_isBentWithin 39 = .ok (.ireturn, 1) := by decide +kernel
theorem dX6_insert_0 : decode cX6_insert 0 = .ok (.aload_n 0, 1) := by decide +kernel
theorem dX6_insert_1 : decode cX6_insert 1 = .ok (.getfield 25, 3) := by decide +kernel
theorem dX6_insert_4 : decode cX6_insert 4 = .ok (.bipush 8, 2) := by decide +kernel
theorem dX6_insert_6 : decode cX6_insert 6 = .ok (.if_icmp .lt 4, 3) := by decide +kernel
theorem dX6_insert_9 : decode cX6_insert 9 = .ok (.return_, 1) := by decide +kernel
theorem dX6_insert_10 : decode cX6_insert 10 = .ok (.aload_n 0, 1) := by decide +kernel
theorem dX6_insert_11 : decode cX6_insert 11 = .ok (.getfield 25, 3) := by decide +kernel
theorem dX6_insert_14 : decode cX6_insert 14 = .ok (.istore 4, 2) := by decide +kernel
theorem dX6_insert_16 : decode cX6_insert 16 = .ok (.iload 4, 2) := by decide +kernel
theorem dX6_insert_18 : decode cX6_insert 18 = .ok (.ifCond .le 70, 3) := by decide +kernel
theorem dX6_insert_21 : decode cX6_insert 21 = .ok (.aload_n 0, 1) := by decide +kernel
theorem dX6_insert_22 : decode cX6_insert 22 = .ok (.getfield 15, 3) := by decide +kernel
theorem dX6_insert_25 : decode cX6_insert 25 = .ok (.iload 4, 2) := by decide +kernel
theorem dX6_insert_27 : decode cX6_insert 27 = .ok (.iconst 1, 1) := by decide +kernel
theorem dX6_insert_28 : decode cX6_insert 28 = .ok (.isub, 1) := by decide +kernel
theorem dX6_insert_29 : decode cX6_insert 29 = .ok (.iaload, 1) := by decide +kernel
theorem dX6_insert_30 : decode cX6_insert 30 = .ok (.iload_n 1, 1) := by decide +kernel
theorem dX6_insert_31 : decode cX6_insert 31 = .ok (.if_icmp .le 57, 3) := by decide +kernel
theorem dX6_insert_34 : decode cX6_insert 34 = .ok (.aload_n 0, 1) := by decide +kernel
theorem dX6_insert_35 : decode cX6_insert 35 = .ok (.getfield 15, 3) := by decide +kernel
theorem dX6_insert_38 : decode cX6_insert 38 = .ok (.iload 4, 2) := by decide +kernel
theorem dX6_insert_40 : decode cX6_insert 40 = .ok (.aload_n 0, 1) := by decide +kernel
theorem dX6_insert_41 : decode cX6_insert 41 = .ok (.getfield 15, 3) := by decide +kernel
theorem dX6_insert_44 : decode cX6_insert 44 = .ok (.iload 4, 2) := by decide +kernel
theorem dX6_insert_46 : decode cX6_insert 46 = .ok (.iconst 1, 1) := by decide +kernel
theorem dX6_insert_47 : decode cX6_insert 47 = .ok (.isub, 1) := by decide +kernel
theorem dX6_insert_48 : decode cX6_insert 48 = .ok (.iaload, 1) := by decide +kernel
theorem dX6_insert_49 : decode cX6_insert 49 = .ok (.iastore, 1) := by decide +kernel
theorem dX6_insert_50 : decode cX6_insert 50 = .ok (.aload_n 0, 1) := by decide +kernel
theorem dX6_insert_51 : decode cX6_insert 51 = .ok (.getfield 19, 3) := by decide +kernel
theorem dX6_insert_54 : decode cX6_insert 54 = .ok (.iload 4, 2) := by decide +kernel
theorem dX6_insert_56 : decode cX6_insert 56 = .ok (.aload_n 0, 1) := by decide +kernel
theorem dX6_insert_57 : decode cX6_insert 57 = .ok (.getfield 19, 3) := by decide +kernel
theorem dX6_insert_60 : decode cX6_insert 60 = .ok (.iload 4, 2) := by decide +kernel
theorem dX6_insert_62 : decode cX6_insert 62 = .ok (.iconst 1, 1) := by decide +kernel
theorem dX6_insert_63 : decode cX6_insert 63 = .ok (.isub, 1) := by decide +kernel
theorem dX6_insert_64 : decode cX6_insert 64 = .ok (.iaload, 1) := by decide +kernel
theorem dX6_insert_65 : decode cX6_insert 65 = .ok (.iastore, 1) := by decide +kernel
theorem dX6_insert_66 : decode cX6_insert 66 = .ok (.aload_n 0, 1) := by decide +kernel
theorem dX6_insert_67 : decode cX6_insert 67 = .ok (.getfield 22, 3) := by decide +kernel
theorem dX6_insert_70 : decode cX6_insert 70 = .ok (.iload 4, 2) := by decide +kernel
theorem dX6_insert_72 : decode cX6_insert 72 = .ok (.aload_n 0, 1) := by decide +kernel
theorem dX6_insert_73 : decode cX6_insert 73 = .ok (.getfield 22, 3) := by decide +kernel
theorem dX6_insert_76 : decode cX6_insert 76 = .ok (.iload 4, 2) := by decide +kernel
theorem dX6_insert_78 : decode cX6_insert 78 = .ok (.iconst 1, 1) := by decide +kernel
theorem dX6_insert_79 : decode cX6_insert 79 = .ok (.isub, 1) := by decide +kernel
theorem dX6_insert_80 : decode cX6_insert 80 = .ok (.iaload, 1) := by decide +kernel
theorem dX6_insert_81 : decode cX6_insert 81 = .ok (.iastore, 1) := by decide +kernel
theorem dX6_insert_82 : decode cX6_insert 82 = .ok (.iinc 4 (-1), 3) := by decide +kernel
theorem dX6_insert_85 : decode cX6_insert 85 = .ok (.goto (-69), 3) := by decide +kernel
theorem dX6_insert_88 : decode cX6_insert 88 = .ok (.aload_n 0, 1) := by decide +kernel
theorem dX6_insert_89 : decode cX6_insert 89 = .ok (.getfield 15, 3) := by decide +kernel
theorem dX6_insert_92 : decode cX6_insert 92 = .ok (.iload 4, 2) := by decide +kernel
theorem dX6_insert_94 : decode cX6_insert 94 = .ok (.iload_n 1, 1) := by decide +kernel
theorem dX6_insert_95 : decode cX6_insert 95 = .ok (.iastore, 1) := by decide +kernel
theorem dX6_insert_96 : decode cX6_insert 96 = .ok (.aload_n 0, 1) := by decide +kernel
theorem dX6_insert_97 : decode cX6_insert 97 = .ok (.getfield 19, 3) := by decide +kernel
theorem dX6_insert_100 : decode cX6_insert 100 = .ok (.iload 4, 2) := by decide +kernel
theorem dX6_insert_102 : decode cX6_insert 102 = .ok (.iload_n 2, 1) := by decide +kernel
theorem dX6_insert_103 : decode cX6_insert 103 = .ok (.iastore, 1) := by decide +kernel
theorem dX6_insert_104 : decode cX6_insert 104 = .ok (.aload_n 0, 1) := by decide +kernel
theorem dX6_insert_105 : decode cX6_insert 105 = .ok (.getfield 22, 3) := by decide +kernel
theorem dX6_insert_108 : decode cX6_insert 108 = .ok (.iload 4, 2) := by decide +kernel
theorem dX6_insert_110 : decode cX6_insert 110 = .ok (.iload_n 3, 1) := by decide +kernel
theorem dX6_insert_111 : decode cX6_insert 111 = .ok (.iastore, 1) := by decide +kernel
theorem dX6_insert_112 : decode cX6_insert 112 = .ok (.aload_n 0, 1) := by decide +kernel
theorem dX6_insert_113 : decode cX6_insert 113 = .ok (.dup, 1) := by decide +kernel
theorem dX6_insert_114 : decode cX6_insert 114 = .ok (.getfield 25, 3) := by decide +kernel
theorem dX6_insert_117 : decode cX6_insert 117 = .ok (.iconst 1, 1) := by decide +kernel
theorem dX6_insert_118 : decode cX6_insert 118 = .ok (.iadd, 1) := by decide +kernel
theorem dX6_insert_119 : decode cX6_insert 119 = .ok (.putfield 25, 3) := by decide +kernel
theorem dX6_insert_122 : decode cX6_insert 122 = .ok (.return_, 1) := by decide +kernel
theorem dX6_asideOf_0 : decode cX6_asideOf 0 = .ok (.lconst 0, 1) := by decide +kernel
theorem dX6_asideOf_1 : decode cX6_asideOf 1 = .ok (.lstore_n 2, 1) := by decide +kernel
theorem dX6_asideOf_2 : decode cX6_asideOf 2 = .ok (.iconst 0, 1) := by decide +kernel
theorem dX6_asideOf_3 : decode cX6_asideOf 3 = .ok (.istore 4, 2) := by decide +kernel
theorem dX6_asideOf_5 : decode cX6_asideOf 5 = .ok (.iload 4, 2) := by decide +kernel
theorem dX6_asideOf_7 : decode cX6_asideOf 7 = .ok (.aload_n 0, 1) := by decide +kernel
theorem dX6_asideOf_8 : decode cX6_asideOf 8 = .ok (.getfield 25, 3) := by decide +kernel
theorem dX6_asideOf_11 : decode cX6_asideOf 11 = .ok (.if_icmp .ge 82, 3) := by decide +kernel
theorem dX6_asideOf_14 : decode cX6_asideOf 14 = .ok (.aload_n 0, 1) := by decide +kernel
theorem dX6_asideOf_15 : decode cX6_asideOf 15 = .ok (.getfield 15, 3) := by decide +kernel
theorem dX6_asideOf_18 : decode cX6_asideOf 18 = .ok (.iload 4, 2) := by decide +kernel
theorem dX6_asideOf_20 : decode cX6_asideOf 20 = .ok (.iaload, 1) := by decide +kernel
theorem dX6_asideOf_21 : decode cX6_asideOf 21 = .ok (.iload_n 1, 1) := by decide +kernel
theorem dX6_asideOf_22 : decode cX6_asideOf 22 = .ok (.if_icmp .ge 71, 3) := by decide +kernel
theorem dX6_asideOf_25 : decode cX6_asideOf 25 = .ok (.iload_n 1, 1) := by decide +kernel
theorem dX6_asideOf_26 : decode cX6_asideOf 26 = .ok (.aload_n 0, 1) := by decide +kernel
theorem dX6_asideOf_27 : decode cX6_asideOf 27 = .ok (.getfield 15, 3) := by decide +kernel
theorem dX6_asideOf_30 : decode cX6_asideOf 30 = .ok (.iload 4, 2) := by decide +kernel
theorem dX6_asideOf_32 : decode cX6_asideOf 32 = .ok (.iaload, 1) := by decide +kernel
theorem dX6_asideOf_33 : decode cX6_asideOf 33 = .ok (.isub, 1) := by decide +kernel
theorem dX6_asideOf_34 : decode cX6_asideOf 34 = .ok (.i2l, 1) := by decide +kernel
theorem dX6_asideOf_35 : decode cX6_asideOf 35 = .ok (.lstore 5, 2) := by decide +kernel
theorem dX6_asideOf_37 : decode cX6_asideOf 37 = .ok (.iload_n 1, 1) := by decide +kernel
theorem dX6_asideOf_38 : decode cX6_asideOf 38 = .ok (.aload_n 0, 1) := by decide +kernel
theorem dX6_asideOf_39 : decode cX6_asideOf 39 = .ok (.getfield 19, 3) := by decide +kernel
theorem dX6_asideOf_42 : decode cX6_asideOf 42 = .ok (.iload 4, 2) := by decide +kernel
theorem dX6_asideOf_44 : decode cX6_asideOf 44 = .ok (.iaload, 1) := by decide +kernel
theorem dX6_asideOf_45 : decode cX6_asideOf 45 = .ok (.if_icmp .le 16, 3) := by decide +kernel
theorem dX6_asideOf_48 : decode cX6_asideOf 48 = .ok (.iload_n 1, 1) := by decide +kernel
theorem dX6_asideOf_49 : decode cX6_asideOf 49 = .ok (.aload_n 0, 1) := by decide +kernel
theorem dX6_asideOf_50 : decode cX6_asideOf 50 = .ok (.getfield 19, 3) := by decide +kernel
theorem dX6_asideOf_53 : decode cX6_asideOf 53 = .ok (.iload 4, 2) := by decide +kernel
theorem dX6_asideOf_55 : decode cX6_asideOf 55 = .ok (.iaload, 1) := by decide +kernel
theorem dX6_asideOf_56 : decode cX6_asideOf 56 = .ok (.isub, 1) := by decide +kernel
theorem dX6_asideOf_57 : decode cX6_asideOf 57 = .ok (.i2l, 1) := by decide +kernel
theorem dX6_asideOf_58 : decode cX6_asideOf 58 = .ok (.goto 4, 3) := by decide +kernel
theorem dX6_asideOf_61 : decode cX6_asideOf 61 = .ok (.lconst 0, 1) := by decide +kernel
theorem dX6_asideOf_62 : decode cX6_asideOf 62 = .ok (.lstore 7, 2) := by decide +kernel
theorem dX6_asideOf_64 : decode cX6_asideOf 64 = .ok (.lload_n 2, 1) := by decide +kernel
theorem dX6_asideOf_65 : decode cX6_asideOf 65 = .ok (.aload_n 0, 1) := by decide +kernel
theorem dX6_asideOf_66 : decode cX6_asideOf 66 = .ok (.getfield 22, 3) := by decide +kernel
theorem dX6_asideOf_69 : decode cX6_asideOf 69 = .ok (.iload 4, 2) := by decide +kernel
theorem dX6_asideOf_71 : decode cX6_asideOf 71 = .ok (.iaload, 1) := by decide +kernel
theorem dX6_asideOf_72 : decode cX6_asideOf 72 = .ok (.i2l, 1) := by decide +kernel
theorem dX6_asideOf_73 : decode cX6_asideOf 73 = .ok (.lload 5, 2) := by decide +kernel
theorem dX6_asideOf_75 : decode cX6_asideOf 75 = .ok (.lload 5, 2) := by decide +kernel
theorem dX6_asideOf_77 : decode cX6_asideOf 77 = .ok (.lmul, 1) := by decide +kernel
theorem dX6_asideOf_78 : decode cX6_asideOf 78 = .ok (.lload 7, 2) := by decide +kernel
theorem dX6_asideOf_80 : decode cX6_asideOf 80 = .ok (.lload 7, 2) := by decide +kernel
theorem dX6_asideOf_82 : decode cX6_asideOf 82 = .ok (.lmul, 1) := by decide +kernel
theorem dX6_asideOf_83 : decode cX6_asideOf 83 = .ok (.lsub, 1) := by decide +kernel
theorem dX6_asideOf_84 : decode cX6_asideOf 84 = .ok (.lmul, 1) := by decide +kernel
theorem dX6_asideOf_85 : decode cX6_asideOf 85 = .ok (.ladd, 1) := by decide +kernel
theorem dX6_asideOf_86 : decode cX6_asideOf 86 = .ok (.lstore_n 2, 1) := by decide +kernel
theorem dX6_asideOf_87 : decode cX6_asideOf 87 = .ok (.iinc 4 1, 3) := by decide +kernel
theorem dX6_asideOf_90 : decode cX6_asideOf 90 = .ok (.goto (-85), 3) := by decide +kernel
theorem dX6_asideOf_93 : decode cX6_asideOf 93 = .ok (.lload_n 2, 1) := by decide +kernel
theorem dX6_asideOf_94 : decode cX6_asideOf 94 = .ok (.lreturn, 1) := by decide +kernel
set_option maxRecDepth 20000 in
theorem ggX7_init_X6_init : GoodIn wsX7_init wsX6_init := goodIn_r _ [33, 34, 2, 3, 35, 36, 37, 38, 39, 87, 88, 89, 90, 91] (by decide +kernel) (by decide +kernel)
set_option maxRecDepth 20000 in
theorem gX7_init_X6_init_n9 : GoodIn wsX7_init (wsX6_init) := ggX7_init_X6_init
set_option maxRecDepth 20000 in
theorem ggX7_init_X2_init : GoodIn wsX7_init wsX2_init := goodIn_r _ [41, 42, 2, 3, 36, 43, 44, 45, 46, 47, 48, 49, 50, 99, 100, 101, 102, 103, 104, 105, 106] (by decide +kernel) (by decide +kernel)
set_option maxRecDepth 20000 in
theorem gX7_init_X2_init_n18 : GoodIn wsX7_init (wsX2_init) := ggX7_init_X2_init
set_option maxRecDepth 20000 in
theorem ggX7_init_X5_init : GoodIn wsX7_init wsX5_init := goodIn_r _ [52, 53, 2, 3, 54, 55, 56, 57, 58, 107, 108, 109, 110] (by decide +kernel) (by decide +kernel)
set_option maxRecDepth 20000 in
theorem gX7_init_X5_init_n25 : GoodIn wsX7_init (wsX5_init) := ggX7_init_X5_init
set_option maxRecDepth 20000 in
theorem ggX7_init_X4_init : GoodIn wsX7_init wsX4_init := goodIn_r _ [61, 62, 2, 3, 63, 64, 65, 111, 112, 113, 114, 115, 116, 117] (by decide +kernel) (by decide +kernel)
set_option maxRecDepth 20000 in
theorem gX7_init_X4_init : GoodIn wsX7_init (wsX4_init) := ggX7_init_X4_init
set_option maxRecDepth 20000 in
theorem ggX7_init_X0_init : GoodIn wsX7_init wsX0_init := goodIn_r _ [67, 68, 2, 3, 69, 70, 71, 72, 73, 118, 119, 120, 121, 122] (by decide +kernel) (by decide +kernel)
set_option maxRecDepth 20000 in
theorem gX7_init_X0_init_n41 : GoodIn wsX7_init (wsX0_init) := ggX7_init_X0_init
set_option maxRecDepth 20000 in
theorem ggX7_init_X1_init : GoodIn wsX7_init wsX1_init := goodIn_r _ [76, 77, 2, 3, 36, 78, 79, 80, 81, 123, 124, 125, 126, 127, 128] (by decide +kernel) (by decide +kernel)
set_option maxRecDepth 20000 in
theorem gX7_init_X1_init : GoodIn wsX7_init (wsX1_init) := ggX7_init_X1_init
set_option maxRecDepth 20000 in
theorem ggX7_init_X3_init : GoodIn wsX7_init wsX3_init := goodIn_r _ [83, 84, 2, 3, 36, 85, 86, 129, 130, 131] (by decide +kernel) (by decide +kernel)
set_option maxRecDepth 20000 in
theorem gX7_init_X3_init_n57 : GoodIn wsX7_init (wsX3_init) := ggX7_init_X3_init
theorem dX7_init_0 : decode cX7_init 0 = .ok (.aload_n 0, 1) := by decide +kernel
theorem dX7_init_1 : decode cX7_init 1 = .ok (.invokespecial 1, 3) := by decide +kernel
theorem dX7_init_4 : decode cX7_init 4 = .ok (.aload_n 0, 1) := by decide +kernel
theorem dX7_init_5 : decode cX7_init 5 = .ok (.new 7, 3) := by decide +kernel
theorem dX7_init_8 : decode cX7_init 8 = .ok (.dup, 1) := by decide +kernel
theorem dX7_init_9 : decode cX7_init 9 = .ok (.invokespecial 9, 3) := by decide +kernel
theorem dX7_init_12 : decode cX7_init 12 = .ok (.putfield 10, 3) := by decide +kernel
theorem dX7_init_15 : decode cX7_init 15 = .ok (.aload_n 0, 1) := by decide +kernel
theorem dX7_init_16 : decode cX7_init 16 = .ok (.new 16, 3) := by decide +kernel
theorem dX7_init_19 : decode cX7_init 19 = .ok (.dup, 1) := by decide +kernel
theorem dX7_init_20 : decode cX7_init 20 = .ok (.invokespecial 18, 3) := by decide +kernel
theorem dX7_init_23 : decode cX7_init 23 = .ok (.putfield 19, 3) := by decide +kernel
theorem dX7_init_26 : decode cX7_init 26 = .ok (.aload_n 0, 1) := by decide +kernel
theorem dX7_init_27 : decode cX7_init 27 = .ok (.new 23, 3) := by decide +kernel
theorem dX7_init_30 : decode cX7_init 30 = .ok (.dup, 1) := by decide +kernel
theorem dX7_init_31 : decode cX7_init 31 = .ok (.invokespecial 25, 3) := by decide +kernel
theorem dX7_init_34 : decode cX7_init 34 = .ok (.putfield 26, 3) := by decide +kernel
theorem dX7_init_37 : decode cX7_init 37 = .ok (.aload_n 0, 1) := by decide +kernel
theorem dX7_init_38 : decode cX7_init 38 = .ok (.new 30, 3) := by decide +kernel
theorem dX7_init_41 : decode cX7_init 41 = .ok (.dup, 1) := by decide +kernel
theorem dX7_init_42 : decode cX7_init 42 = .ok (.aload_n 0, 1) := by decide +kernel
theorem dX7_init_43 : decode cX7_init 43 = .ok (.getfield 10, 3) := by decide +kernel
theorem dX7_init_46 : decode cX7_init 46 = .ok (.aload_n 0, 1) := by decide +kernel
theorem dX7_init_47 : decode cX7_init 47 = .ok (.getfield 19, 3) := by decide +kernel
theorem dX7_init_50 : decode cX7_init 50 = .ok (.aload_n 0, 1) := by decide +kernel
theorem dX7_init_51 : decode cX7_init 51 = .ok (.getfield 26, 3) := by decide +kernel
theorem dX7_init_54 : decode cX7_init 54 = .ok (.invokespecial 32, 3) := by decide +kernel
theorem dX7_init_57 : decode cX7_init 57 = .ok (.putfield 35, 3) := by decide +kernel
theorem dX7_init_60 : decode cX7_init 60 = .ok (.aload_n 0, 1) := by decide +kernel
theorem dX7_init_61 : decode cX7_init 61 = .ok (.new 39, 3) := by decide +kernel
theorem dX7_init_64 : decode cX7_init 64 = .ok (.dup, 1) := by decide +kernel
theorem dX7_init_65 : decode cX7_init 65 = .ok (.invokespecial 41, 3) := by decide +kernel
theorem dX7_init_68 : decode cX7_init 68 = .ok (.putfield 42, 3) := by decide +kernel
theorem dX7_init_71 : decode cX7_init 71 = .ok (.aload_n 0, 1) := by decide +kernel
theorem dX7_init_72 : decode cX7_init 72 = .ok (.new 46, 3) := by decide +kernel
theorem dX7_init_75 : decode cX7_init 75 = .ok (.dup, 1) := by decide +kernel
theorem dX7_init_76 : decode cX7_init 76 = .ok (.aload_n 0, 1) := by decide +kernel
theorem dX7_init_77 : decode cX7_init 77 = .ok (.getfield 19, 3) := by decide +kernel
theorem dX7_init_80 : decode cX7_init 80 = .ok (.aload_n 0, 1) := by decide +kernel
theorem dX7_init_81 : decode cX7_init 81 = .ok (.getfield 35, 3) := by decide +kernel
theorem dX7_init_84 : decode cX7_init 84 = .ok (.invokespecial 48, 3) := by decide +kernel
theorem dX7_init_87 : decode cX7_init 87 = .ok (.putfield 51, 3) := by decide +kernel
theorem dX7_init_90 : decode cX7_init 90 = .ok (.aload_n 0, 1) := by decide +kernel
theorem dX7_init_91 : decode cX7_init 91 = .ok (.new 55, 3) := by decide +kernel
theorem dX7_init_94 : decode cX7_init 94 = .ok (.dup, 1) := by decide +kernel
theorem dX7_init_95 : decode cX7_init 95 = .ok (.invokespecial 57, 3) := by decide +kernel
theorem dX7_init_98 : decode cX7_init 98 = .ok (.putfield 58, 3) := by decide +kernel
theorem dX7_init_101 : decode cX7_init 101 = .ok (.return_, 1) := by decide +kernel
set_option maxRecDepth 20000 in
theorem ggX7_length_X7_within : GoodIn wsX7_length wsX7_within := goodIn_r _ [9] (by decide +kernel) (by decide +kernel)
set_option maxRecDepth 20000 in
theorem gX7_length_X7_within : GoodIn wsX7_length (va_wsS RX7 62 yX7_within wsX7_within) := goodIn_app (goodIn_of _ (by decide +kernel)) ggX7_length_X7_within
theorem dX7_length_0 : decode cX7_length 0 = .ok (.iload_n 1, 1) := by decide +kernel
theorem dX7_length_1 : decode cX7_length 1 = .ok (.bipush 100, 2) := by decide +kernel
theorem dX7_length_3 : decode cX7_length 3 = .ok (.sipush 4000, 3) := by decide +kernel
theorem dX7_length_6 : decode cX7_length 6 = .ok (.invokestatic 62, 3) := by decide +kernel
theorem dX7_length_9 : decode cX7_length 9 = .ok (.ifCond .ne 6, 3) := by decide +kernel
theorem dX7_length_12 : decode cX7_length 12 = .ok (.bipush (-2), 2) := by decide +kernel
theorem dX7_length_14 : decode cX7_length 14 = .ok (.ireturn, 1) := by decide +kernel
theorem dX7_length_15 : decode cX7_length 15 = .ok (.aload_n 0, 1) := by decide +kernel
theorem dX7_length_16 : decode cX7_length 16 = .ok (.getfield 19, 3) := by decide +kernel
theorem dX7_length_19 : decode cX7_length 19 = .ok (.getfield 66, 3) := by decide +kernel
theorem dX7_length_22 : decode cX7_length 22 = .ok (.ifCond .le 6, 3) := by decide +kernel
theorem dX7_length_25 : decode cX7_length 25 = .ok (.bipush (-3), 2) := by decide +kernel
theorem dX7_length_27 : decode cX7_length 27 = .ok (.ireturn, 1) := by decide +kernel
theorem dX7_length_28 : decode cX7_length 28 = .ok (.aload_n 0, 1) := by decide +kernel
theorem dX7_length_29 : decode cX7_length 29 = .ok (.getfield 10, 3) := by decide +kernel
theorem dX7_length_32 : decode cX7_length 32 = .ok (.getfield 70, 3) := by decide +kernel
theorem dX7_length_35 : decode cX7_length 35 = .ok (.istore_n 2, 1) := by decide +kernel
theorem dX7_length_36 : decode cX7_length 36 = .ok (.aload_n 0, 1) := by decide +kernel
theorem dX7_length_37 : decode cX7_length 37 = .ok (.getfield 10, 3) := by decide +kernel
theorem dX7_length_40 : decode cX7_length 40 = .ok (.iload_n 1, 1) := by decide +kernel
theorem dX7_length_41 : decode cX7_length 41 = .ok (.putfield 70, 3) := by decide +kernel
theorem dX7_length_44 : decode cX7_length 44 = .ok (.aload_n 0, 1) := by decide +kernel
theorem dX7_length_45 : decode cX7_length 45 = .ok (.getfield 10, 3) := by decide +kernel
theorem dX7_length_48 : decode cX7_length 48 = .ok (.iconst 0, 1) := by decide +kernel
theorem dX7_length_49 : decode cX7_length 49 = .ok (.putfield 73, 3) := by decide +kernel
theorem dX7_length_52 : decode cX7_length 52 = .ok (.iload_n 2, 1) := by decide +kernel
theorem dX7_length_53 : decode cX7_length 53 = .ok (.ireturn, 1) := by decide +kernel
set_option maxRecDepth 20000 in
theorem ggX7_bend_X7_within : GoodIn wsX7_bend wsX7_within := goodIn_r _ [9] (by decide +kernel) (by decide +kernel)
set_option maxRecDepth 20000 in
theorem gX7_bend_X7_within : GoodIn wsX7_bend (va_wsS RX7 62 yX7_within wsX7_within) := goodIn_app (goodIn_of _ (by decide +kernel)) ggX7_bend_X7_within
set_option maxRecDepth 20000 in
theorem ggX7_bend_X6_isBentWithin : GoodIn wsX7_bend wsX6_isBentWithin := goodIn_r _ [14, 15, 16, 17, 30, 31, 32, 33, 34] (by decide +kernel) (by decide +kernel)
set_option maxRecDepth 20000 in
theorem gX7_bend_X6_isBentWithin : GoodIn wsX7_bend (wsV RX7 76 RX6 yX6_isBentWithin wsX6_isBentWithin) := goodIn_app (goodIn_of _ (by decide +kernel)) ggX7_bend_X6_isBentWithin
set_option maxRecDepth 20000 in
theorem ggX7_bend_X6_insert : GoodIn wsX7_bend wsX6_insert := goodIn_r _ [21, 15, 17, 16, 22, 30, 31, 32, 33, 34] (by decide +kernel) (by decide +kernel)
set_option maxRecDepth 20000 in
theorem gX7_bend_X6_insert : GoodIn wsX7_bend (wsV RX7 80 RX6 yX6_insert wsX6_insert) := goodIn_app (goodIn_of _ (by decide +kernel)) ggX7_bend_X6_insert
theorem dX7_bend_0 : decode cX7_bend 0 = .ok (.iload_n 1, 1) := by decide +kernel
theorem dX7_bend_1 : decode cX7_bend 1 = .ok (.ifCond .lt 30, 3) := by decide +kernel
theorem dX7_bend_4 : decode cX7_bend 4 = .ok (.iload_n 1, 1) := by decide +kernel
theorem dX7_bend_5 : decode cX7_bend 5 = .ok (.iload_n 2, 1) := by decide +kernel
theorem dX7_bend_6 : decode cX7_bend 6 = .ok (.if_icmp .ge 25, 3) := by decide +kernel
theorem dX7_bend_9 : decode cX7_bend 9 = .ok (.iload_n 2, 1) := by decide +kernel
theorem dX7_bend_10 : decode cX7_bend 10 = .ok (.aload_n 0, 1) := by decide +kernel
theorem dX7_bend_11 : decode cX7_bend 11 = .ok (.getfield 10, 3) := by decide +kernel
theorem dX7_bend_14 : decode cX7_bend 14 = .ok (.getfield 70, 3) := by decide +kernel
theorem dX7_bend_17 : decode cX7_bend 17 = .ok (.if_icmp .gt 14, 3) := by decide +kernel
theorem dX7_bend_20 : decode cX7_bend 20 = .ok (.iload_n 3, 1) := by decide +kernel
theorem dX7_bend_21 : decode cX7_bend 21 = .ok (.bipush (-50), 2) := by decide +kernel
theorem dX7_bend_23 : decode cX7_bend 23 = .ok (.bipush 50, 2) := by decide +kernel
theorem dX7_bend_25 : decode cX7_bend 25 = .ok (.invokestatic 62, 3) := by decide +kernel
theorem dX7_bend_28 : decode cX7_bend 28 = .ok (.ifCond .ne 6, 3) := by decide +kernel
theorem dX7_bend_31 : decode cX7_bend 31 = .ok (.bipush (-2), 2) := by decide +kernel
theorem dX7_bend_33 : decode cX7_bend 33 = .ok (.ireturn, 1) := by decide +kernel
theorem dX7_bend_34 : decode cX7_bend 34 = .ok (.aload_n 0, 1) := by decide +kernel
theorem dX7_bend_35 : decode cX7_bend 35 = .ok (.getfield 19, 3) := by decide +kernel
theorem dX7_bend_38 : decode cX7_bend 38 = .ok (.getfield 66, 3) := by decide +kernel
theorem dX7_bend_41 : decode cX7_bend 41 = .ok (.ifCond .le 6, 3) := by decide +kernel
theorem dX7_bend_44 : decode cX7_bend 44 = .ok (.bipush (-3), 2) := by decide +kernel
theorem dX7_bend_46 : decode cX7_bend 46 = .ok (.ireturn, 1) := by decide +kernel
theorem dX7_bend_47 : decode cX7_bend 47 = .ok (.aload_n 0, 1) := by decide +kernel
theorem dX7_bend_48 : decode cX7_bend 48 = .ok (.getfield 10, 3) := by decide +kernel
theorem dX7_bend_51 : decode cX7_bend 51 = .ok (.getfield 73, 3) := by decide +kernel
theorem dX7_bend_54 : decode cX7_bend 54 = .ok (.bipush 8, 2) := by decide +kernel
theorem dX7_bend_56 : decode cX7_bend 56 = .ok (.if_icmp .lt 6, 3) := by decide +kernel
theorem dX7_bend_59 : decode cX7_bend 59 = .ok (.bipush (-4), 2) := by decide +kernel
theorem dX7_bend_61 : decode cX7_bend 61 = .ok (.ireturn, 1) := by decide +kernel
theorem dX7_bend_62 : decode cX7_bend 62 = .ok (.aload_n 0, 1) := by decide +kernel
theorem dX7_bend_63 : decode cX7_bend 63 = .ok (.getfield 10, 3) := by decide +kernel
theorem dX7_bend_66 : decode cX7_bend 66 = .ok (.iload_n 1, 1) := by decide +kernel
theorem dX7_bend_67 : decode cX7_bend 67 = .ok (.iload_n 2, 1) := by decide +kernel
theorem dX7_bend_68 : decode cX7_bend 68 = .ok (.invokevirtual 76, 3) := by decide +kernel
theorem dX7_bend_71 : decode cX7_bend 71 = .ok (.ifCond .eq 6, 3) := by decide +kernel
theorem dX7_bend_74 : decode cX7_bend 74 = .ok (.bipush (-5), 2) := by decide +kernel
theorem dX7_bend_76 : decode cX7_bend 76 = .ok (.ireturn, 1) := by decide +kernel
theorem dX7_bend_77 : decode cX7_bend 77 = .ok (.aload_n 0, 1) := by decide +kernel
theorem dX7_bend_78 : decode cX7_bend 78 = .ok (.getfield 10, 3) := by decide +kernel
theorem dX7_bend_81 : decode cX7_bend 81 = .ok (.iload_n 1, 1) := by decide +kernel
theorem dX7_bend_82 : decode cX7_bend 82 = .ok (.iload_n 2, 1) := by decide +kernel
theorem dX7_bend_83 : decode cX7_bend 83 = .ok (.iload_n 3, 1) := by decide +kernel
theorem dX7_bend_84 : decode cX7_bend 84 = .ok (.invokevirtual 80, 3) := by decide +kernel
theorem dX7_bend_87 : decode cX7_bend 87 = .ok (.aload_n 0, 1) := by decide +kernel
theorem dX7_bend_88 : decode cX7_bend 88 = .ok (.getfield 10, 3) := by decide +kernel
theorem dX7_bend_91 : decode cX7_bend 91 = .ok (.getfield 73, 3) := by decide +kernel
theorem dX7_bend_94 : decode cX7_bend 94 = .ok (.ireturn, 1) := by decide +kernel
set_option maxRecDepth 20000 in
theorem ggX7_aside_X6_has : GoodIn wsX7_aside wsX6_has := goodIn_r _ [7, 8, 24, 25, 26, 27, 28] (by decide +kernel) (by decide +kernel)
set_option maxRecDepth 20000 in
theorem gX7_aside_X6_has : GoodIn wsX7_aside (wsV RX7 84 RX6 yX6_has wsX6_has) := goodIn_app (goodIn_of _ (by decide +kernel)) ggX7_aside_X6_has
set_option maxRecDepth 20000 in
theorem ggX7_aside_X6_asideOf : GoodIn wsX7_aside wsX6_asideOf := goodIn_r _ [12, 13, 14, 15, 16, 24, 25, 26, 27, 28] (by decide +kernel) (by decide +kernel)
set_option maxRecDepth 20000 in
theorem gX7_aside_X6_asideOf : GoodIn wsX7_aside (wsV RX7 88 RX6 yX6_asideOf wsX6_asideOf) := goodIn_app (goodIn_of _ (by decide +kernel)) ggX7_aside_X6_asideOf
theorem dX7_aside_0 : decode cX7_aside 0 = .ok (.aload_n 0, 1) := by decide +kernel
theorem dX7_aside_1 : decode cX7_aside 1 = .ok (.getfield 10, 3) := by decide +kernel
theorem dX7_aside_4 : decode cX7_aside 4 = .ok (.iload_n 1, 1) := by decide +kernel
theorem dX7_aside_5 : decode cX7_aside 5 = .ok (.invokevirtual 84, 3) := by decide +kernel
theorem dX7_aside_8 : decode cX7_aside 8 = .ok (.ifCond .eq 14, 3) := by decide +kernel
theorem dX7_aside_11 : decode cX7_aside 11 = .ok (.aload_n 0, 1) := by decide +kernel
theorem dX7_aside_12 : decode cX7_aside 12 = .ok (.getfield 10, 3) := by decide +kernel
theorem dX7_aside_15 : decode cX7_aside 15 = .ok (.iload_n 1, 1) := by decide +kernel
theorem dX7_aside_16 : decode cX7_aside 16 = .ok (.invokevirtual 88, 3) := by decide +kernel
theorem dX7_aside_19 : decode cX7_aside 19 = .ok (.goto 6, 3) := by decide +kernel
theorem dX7_aside_22 : decode cX7_aside 22 = .ok (.ldc2_w 92, 3) := by decide +kernel
theorem dX7_aside_25 : decode cX7_aside 25 = .ok (.lreturn, 1) := by decide +kernel
set_option maxRecDepth 20000 in
theorem ggX7_peg_X6_has : GoodIn wsX7_peg wsX6_has := goodIn_r _ [10, 11, 58, 59, 60, 61, 62] (by decide +kernel) (by decide +kernel)
set_option maxRecDepth 20000 in
theorem gX7_peg_X6_has : GoodIn wsX7_peg (wsV RX7 84 RX6 yX6_has wsX6_has) := goodIn_app (goodIn_of _ (by decide +kernel)) ggX7_peg_X6_has
set_option maxRecDepth 20000 in
theorem ggX7_peg_X7_within : GoodIn wsX7_peg wsX7_within := goodIn_r _ [15] (by decide +kernel) (by decide +kernel)
set_option maxRecDepth 20000 in
theorem gX7_peg_X7_within : GoodIn wsX7_peg (va_wsS RX7 62 yX7_within wsX7_within) := goodIn_app (goodIn_of _ (by decide +kernel)) ggX7_peg_X7_within
set_option maxRecDepth 20000 in
theorem ggX7_peg_X2_countBefore : GoodIn wsX7_peg wsX2_countBefore := goodIn_r _ [20, 21, 22, 50, 51, 52, 53, 54, 55, 56, 57] (by decide +kernel) (by decide +kernel)
set_option maxRecDepth 20000 in
theorem gX7_peg_X2_countBefore : GoodIn wsX7_peg (wsV RX7 97 RX2 yX2_countBefore wsX2_countBefore) := goodIn_app (goodIn_of _ (by decide +kernel)) ggX7_peg_X2_countBefore
set_option maxRecDepth 20000 in
theorem ggX7_peg_X6_asideOf : GoodIn wsX7_peg wsX6_asideOf := goodIn_r _ [26, 27, 28, 29, 30, 58, 59, 60, 61, 62] (by decide +kernel) (by decide +kernel)
set_option maxRecDepth 20000 in
theorem gX7_peg_X6_asideOf : GoodIn wsX7_peg (wsV RX7 88 RX6 yX6_asideOf wsX6_asideOf) := goodIn_app (goodIn_of _ (by decide +kernel)) ggX7_peg_X6_asideOf
set_option maxRecDepth 20000 in
theorem ggX7_peg_X2_insert : GoodIn wsX7_peg wsX2_insert := goodIn_r _ [34, 21, 22, 35, 36, 37, 38, 39, 19, 40, 41, 42, 50, 51, 52, 53, 54, 55, 56, 57] (by decide +kernel) (by decide +kernel)
set_option maxRecDepth 20000 in
theorem gX7_peg_X2_insert : GoodIn wsX7_peg (wsV RX7 105 RX2 yX2_insert wsX2_insert) := goodIn_app (goodIn_of _ (by decide +kernel)) ggX7_peg_X2_insert
theorem dX7_peg_0 : decode cX7_peg 0 = .ok (.aload_n 0, 1) := by decide +kernel
theorem dX7_peg_1 : decode cX7_peg 1 = .ok (.getfield 10, 3) := by decide +kernel
theorem dX7_peg_4 : decode cX7_peg 4 = .ok (.iload_n 1, 1) := by decide +kernel
theorem dX7_peg_5 : decode cX7_peg 5 = .ok (.invokevirtual 84, 3) := by decide +kernel
theorem dX7_peg_8 : decode cX7_peg 8 = .ok (.ifCond .eq 14, 3) := by decide +kernel
theorem dX7_peg_11 : decode cX7_peg 11 = .ok (.iload_n 2, 1) := by decide +kernel
theorem dX7_peg_12 : decode cX7_peg 12 = .ok (.iconst 1, 1) := by decide +kernel
theorem dX7_peg_13 : decode cX7_peg 13 = .ok (.sipush 1000, 3) := by decide +kernel
theorem dX7_peg_16 : decode cX7_peg 16 = .ok (.invokestatic 62, 3) := by decide +kernel
theorem dX7_peg_19 : decode cX7_peg 19 = .ok (.ifCond .ne 6, 3) := by decide +kernel
theorem dX7_peg_22 : decode cX7_peg 22 = .ok (.bipush (-2), 2) := by decide +kernel
theorem dX7_peg_24 : decode cX7_peg 24 = .ok (.ireturn, 1) := by decide +kernel
theorem dX7_peg_25 : decode cX7_peg 25 = .ok (.aload_n 0, 1) := by decide +kernel
theorem dX7_peg_26 : decode cX7_peg 26 = .ok (.getfield 19, 3) := by decide +kernel
theorem dX7_peg_29 : decode cX7_peg 29 = .ok (.getfield 94, 3) := by decide +kernel
theorem dX7_peg_32 : decode cX7_peg 32 = .ok (.ifCond .le 6, 3) := by decide +kernel
theorem dX7_peg_35 : decode cX7_peg 35 = .ok (.bipush (-3), 2) := by decide +kernel
theorem dX7_peg_37 : decode cX7_peg 37 = .ok (.ireturn, 1) := by decide +kernel
theorem dX7_peg_38 : decode cX7_peg 38 = .ok (.aload_n 0, 1) := by decide +kernel
theorem dX7_peg_39 : decode cX7_peg 39 = .ok (.getfield 19, 3) := by decide +kernel
theorem dX7_peg_42 : decode cX7_peg 42 = .ok (.getfield 66, 3) := by decide +kernel
theorem dX7_peg_45 : decode cX7_peg 45 = .ok (.bipush 40, 2) := by decide +kernel
theorem dX7_peg_47 : decode cX7_peg 47 = .ok (.if_icmp .lt 6, 3) := by decide +kernel
theorem dX7_peg_50 : decode cX7_peg 50 = .ok (.bipush (-4), 2) := by decide +kernel
theorem dX7_peg_52 : decode cX7_peg 52 = .ok (.ireturn, 1) := by decide +kernel
theorem dX7_peg_53 : decode cX7_peg 53 = .ok (.aload_n 0, 1) := by decide +kernel
theorem dX7_peg_54 : decode cX7_peg 54 = .ok (.getfield 19, 3) := by decide +kernel
theorem dX7_peg_57 : decode cX7_peg 57 = .ok (.iload_n 1, 1) := by decide +kernel
theorem dX7_peg_58 : decode cX7_peg 58 = .ok (.invokevirtual 97, 3) := by decide +kernel
theorem dX7_peg_61 : decode cX7_peg 61 = .ok (.istore_n 3, 1) := by decide +kernel
theorem dX7_peg_62 : decode cX7_peg 62 = .ok (.iload_n 3, 1) := by decide +kernel
theorem dX7_peg_63 : decode cX7_peg 63 = .ok (.aload_n 0, 1) := by decide +kernel
theorem dX7_peg_64 : decode cX7_peg 64 = .ok (.getfield 19, 3) := by decide +kernel
theorem dX7_peg_67 : decode cX7_peg 67 = .ok (.getfield 66, 3) := by decide +kernel
theorem dX7_peg_70 : decode cX7_peg 70 = .ok (.if_icmp .ge 19, 3) := by decide +kernel
theorem dX7_peg_73 : decode cX7_peg 73 = .ok (.aload_n 0, 1) := by decide +kernel
theorem dX7_peg_74 : decode cX7_peg 74 = .ok (.getfield 19, 3) := by decide +kernel
theorem dX7_peg_77 : decode cX7_peg 77 = .ok (.getfield 101, 3) := by decide +kernel
theorem dX7_peg_80 : decode cX7_peg 80 = .ok (.iload_n 3, 1) := by decide +kernel
theorem dX7_peg_81 : decode cX7_peg 81 = .ok (.iaload, 1) := by decide +kernel
theorem dX7_peg_82 : decode cX7_peg 82 = .ok (.iload_n 1, 1) := by decide +kernel
theorem dX7_peg_83 : decode cX7_peg 83 = .ok (.if_icmp .ne 6, 3) := by decide +kernel
theorem dX7_peg_86 : decode cX7_peg 86 = .ok (.bipush (-5), 2) := by decide +kernel
theorem dX7_peg_88 : decode cX7_peg 88 = .ok (.ireturn, 1) := by decide +kernel
theorem dX7_peg_89 : decode cX7_peg 89 = .ok (.aload_n 0, 1) := by decide +kernel
theorem dX7_peg_90 : decode cX7_peg 90 = .ok (.getfield 19, 3) := by decide +kernel
theorem dX7_peg_93 : decode cX7_peg 93 = .ok (.iload_n 3, 1) := by decide +kernel
theorem dX7_peg_94 : decode cX7_peg 94 = .ok (.iload_n 1, 1) := by decide +kernel
theorem dX7_peg_95 : decode cX7_peg 95 = .ok (.iload_n 2, 1) := by decide +kernel
theorem dX7_peg_96 : decode cX7_peg 96 = .ok (.aload_n 0, 1) := by decide +kernel
theorem dX7_peg_97 : decode cX7_peg 97 = .ok (.getfield 10, 3) := by decide +kernel
theorem dX7_peg_100 : decode cX7_peg 100 = .ok (.iload_n 1, 1) := by decide +kernel
theorem dX7_peg_101 : decode cX7_peg 101 = .ok (.invokevirtual 88, 3) := by decide +kernel
theorem dX7_peg_104 : decode cX7_peg 104 = .ok (.invokevirtual 105, 3) := by decide +kernel
theorem dX7_peg_107 : decode cX7_peg 107 = .ok (.iload_n 3, 1) := by decide +kernel
theorem dX7_peg_108 : decode cX7_peg 108 = .ok (.ireturn, 1) := by decide +kernel
set_option maxRecDepth 20000 in
theorem ggX7_mast_X2_has : GoodIn wsX7_mast wsX2_has := goodIn_r _ [7, 8, 32, 33, 34, 35, 36, 37, 38, 39] (by decide +kernel) (by decide +kernel)
set_option maxRecDepth 20000 in
theorem gX7_mast_X2_has : GoodIn wsX7_mast (wsV RX7 108 RX2 yX2_has wsX2_has) := goodIn_app (goodIn_of _ (by decide +kernel)) ggX7_mast_X2_has
set_option maxRecDepth 20000 in
theorem ggX7_mast_X7_within : GoodIn wsX7_mast wsX7_within := goodIn_r _ [12] (by decide +kernel) (by decide +kernel)
set_option maxRecDepth 20000 in
theorem gX7_mast_X7_within : GoodIn wsX7_mast (va_wsS RX7 62 yX7_within wsX7_within) := goodIn_app (goodIn_of _ (by decide +kernel)) ggX7_mast_X7_within
set_option maxRecDepth 20000 in
theorem ggX7_mast_X2_raise : GoodIn wsX7_mast wsX2_raise := goodIn_r _ [16, 17, 18, 32, 33, 34, 35, 36, 37, 38, 39] (by decide +kernel) (by decide +kernel)
set_option maxRecDepth 20000 in
theorem gX7_mast_X2_raise : GoodIn wsX7_mast (wsV RX7 109 RX2 yX2_raise wsX2_raise) := goodIn_app (goodIn_of _ (by decide +kernel)) ggX7_mast_X2_raise
set_option maxRecDepth 20000 in
theorem ggX7_mast_X2_listMasts : GoodIn wsX7_mast wsX2_listMasts := goodIn_r _ [22, 23, 8, 17, 24, 32, 33, 34, 35, 36, 37, 38, 39] (by decide +kernel) (by decide +kernel)
set_option maxRecDepth 20000 in
theorem gX7_mast_X2_listMasts : GoodIn wsX7_mast (wsV RX7 113 RX2 yX2_listMasts wsX2_listMasts) := goodIn_app (goodIn_of _ (by decide +kernel)) ggX7_mast_X2_listMasts
theorem dX7_mast_0 : decode cX7_mast 0 = .ok (.aload_n 0, 1) := by decide +kernel
theorem dX7_mast_1 : decode cX7_mast 1 = .ok (.getfield 19, 3) := by decide +kernel
theorem dX7_mast_4 : decode cX7_mast 4 = .ok (.iload_n 1, 1) := by decide +kernel
theorem dX7_mast_5 : decode cX7_mast 5 = .ok (.invokevirtual 108, 3) := by decide +kernel
theorem dX7_mast_8 : decode cX7_mast 8 = .ok (.ifCond .ne 5, 3) := by decide +kernel
theorem dX7_mast_11 : decode cX7_mast 11 = .ok (.iconst (-1), 1) := by decide +kernel
theorem dX7_mast_12 : decode cX7_mast 12 = .ok (.ireturn, 1) := by decide +kernel
theorem dX7_mast_13 : decode cX7_mast 13 = .ok (.iload_n 2, 1) := by decide +kernel
theorem dX7_mast_14 : decode cX7_mast 14 = .ok (.sipush (-400), 3) := by decide +kernel
theorem dX7_mast_17 : decode cX7_mast 17 = .ok (.sipush 400, 3) := by decide +kernel
theorem dX7_mast_20 : decode cX7_mast 20 = .ok (.invokestatic 62, 3) := by decide +kernel
theorem dX7_mast_23 : decode cX7_mast 23 = .ok (.ifCond .ne 6, 3) := by decide +kernel
theorem dX7_mast_26 : decode cX7_mast 26 = .ok (.bipush (-2), 2) := by decide +kernel
theorem dX7_mast_28 : decode cX7_mast 28 = .ok (.ireturn, 1) := by decide +kernel
theorem dX7_mast_29 : decode cX7_mast 29 = .ok (.aload_n 0, 1) := by decide +kernel
theorem dX7_mast_30 : decode cX7_mast 30 = .ok (.getfield 19, 3) := by decide +kernel
theorem dX7_mast_33 : decode cX7_mast 33 = .ok (.iload_n 1, 1) := by decide +kernel
theorem dX7_mast_34 : decode cX7_mast 34 = .ok (.iload_n 2, 1) := by decide +kernel
theorem dX7_mast_35 : decode cX7_mast 35 = .ok (.invokevirtual 109, 3) := by decide +kernel
theorem dX7_mast_38 : decode cX7_mast 38 = .ok (.aload_n 0, 1) := by decide +kernel
theorem dX7_mast_39 : decode cX7_mast 39 = .ok (.getfield 19, 3) := by decide +kernel
theorem dX7_mast_42 : decode cX7_mast 42 = .ok (.invokevirtual 113, 3) := by decide +kernel
theorem dX7_mast_45 : decode cX7_mast 45 = .ok (.aload_n 0, 1) := by decide +kernel
theorem dX7_mast_46 : decode cX7_mast 46 = .ok (.getfield 19, 3) := by decide +kernel
theorem dX7_mast_49 : decode cX7_mast 49 = .ok (.getfield 94, 3) := by decide +kernel
theorem dX7_mast_52 : decode cX7_mast 52 = .ok (.ireturn, 1) := by decide +kernel
set_option maxRecDepth 20000 in
theorem ggX7_fell_X2_has : GoodIn wsX7_fell wsX2_has := goodIn_r _ [8, 9, 29, 30, 31, 32, 33, 34, 35, 36] (by decide +kernel) (by decide +kernel)
set_option maxRecDepth 20000 in
theorem gX7_fell_X2_has : GoodIn wsX7_fell (wsV RX7 108 RX2 yX2_has wsX2_has) := goodIn_app (goodIn_of _ (by decide +kernel)) ggX7_fell_X2_has
set_option maxRecDepth 20000 in
theorem ggX7_fell_X2_takeDown : GoodIn wsX7_fell wsX2_takeDown := goodIn_r _ [13, 14, 15, 29, 30, 31, 32, 33, 34, 35, 36] (by decide +kernel) (by decide +kernel)
set_option maxRecDepth 20000 in
theorem gX7_fell_X2_takeDown : GoodIn wsX7_fell (wsV RX7 120 RX2 yX2_takeDown wsX2_takeDown) := goodIn_app (goodIn_of _ (by decide +kernel)) ggX7_fell_X2_takeDown
set_option maxRecDepth 20000 in
theorem ggX7_fell_X2_listMasts : GoodIn wsX7_fell wsX2_listMasts := goodIn_r _ [19, 20, 9, 14, 21, 29, 30, 31, 32, 33, 34, 35, 36] (by decide +kernel) (by decide +kernel)
set_option maxRecDepth 20000 in
theorem gX7_fell_X2_listMasts : GoodIn wsX7_fell (wsV RX7 113 RX2 yX2_listMasts wsX2_listMasts) := goodIn_app (goodIn_of _ (by decide +kernel)) ggX7_fell_X2_listMasts
theorem dX7_fell_0 : decode cX7_fell 0 = .ok (.aload_n 0, 1) := by decide +kernel
theorem dX7_fell_1 : decode cX7_fell 1 = .ok (.getfield 19, 3) := by decide +kernel
theorem dX7_fell_4 : decode cX7_fell 4 = .ok (.iload_n 1, 1) := by decide +kernel
theorem dX7_fell_5 : decode cX7_fell 5 = .ok (.invokevirtual 108, 3) := by decide +kernel
theorem dX7_fell_8 : decode cX7_fell 8 = .ok (.ifCond .ne 5, 3) := by decide +kernel
theorem dX7_fell_11 : decode cX7_fell 11 = .ok (.iconst (-1), 1) := by decide +kernel
theorem dX7_fell_12 : decode cX7_fell 12 = .ok (.ireturn, 1) := by decide +kernel
theorem dX7_fell_13 : decode cX7_fell 13 = .ok (.aload_n 0, 1) := by decide +kernel
theorem dX7_fell_14 : decode cX7_fell 14 = .ok (.getfield 19, 3) := by decide +kernel
theorem dX7_fell_17 : decode cX7_fell 17 = .ok (.getfield 116, 3) := by decide +kernel
theorem dX7_fell_20 : decode cX7_fell 20 = .ok (.iload_n 1, 1) := by decide +kernel
theorem dX7_fell_21 : decode cX7_fell 21 = .ok (.baload, 1) := by decide +kernel
theorem dX7_fell_22 : decode cX7_fell 22 = .ok (.ifCond .ne 6, 3) := by decide +kernel
theorem dX7_fell_25 : decode cX7_fell 25 = .ok (.bipush (-3), 2) := by decide +kernel
theorem dX7_fell_27 : decode cX7_fell 27 = .ok (.ireturn, 1) := by decide +kernel
theorem dX7_fell_28 : decode cX7_fell 28 = .ok (.aload_n 0, 1) := by decide +kernel
theorem dX7_fell_29 : decode cX7_fell 29 = .ok (.getfield 19, 3) := by decide +kernel
theorem dX7_fell_32 : decode cX7_fell 32 = .ok (.iload_n 1, 1) := by decide +kernel
theorem dX7_fell_33 : decode cX7_fell 33 = .ok (.invokevirtual 120, 3) := by decide +kernel
theorem dX7_fell_36 : decode cX7_fell 36 = .ok (.aload_n 0, 1) := by decide +kernel
theorem dX7_fell_37 : decode cX7_fell 37 = .ok (.getfield 19, 3) := by decide +kernel
theorem dX7_fell_40 : decode cX7_fell 40 = .ok (.invokevirtual 113, 3) := by decide +kernel
theorem dX7_fell_43 : decode cX7_fell 43 = .ok (.aload_n 0, 1) := by decide +kernel
theorem dX7_fell_44 : decode cX7_fell 44 = .ok (.getfield 19, 3) := by decide +kernel
theorem dX7_fell_47 : decode cX7_fell 47 = .ok (.getfield 94, 3) := by decide +kernel
theorem dX7_fell_50 : decode cX7_fell 50 = .ok (.ireturn, 1) := by decide +kernel
theorem dX7_clear_0 : decode cX7_clear 0 = .ok (.aload_n 0, 1) := by decide +kernel
theorem dX7_clear_1 : decode cX7_clear 1 = .ok (.getfield 19, 3) := by decide +kernel
theorem dX7_clear_4 : decode cX7_clear 4 = .ok (.getfield 66, 3) := by decide +kernel
theorem dX7_clear_7 : decode cX7_clear 7 = .ok (.istore_n 1, 1) := by decide +kernel
theorem dX7_clear_8 : decode cX7_clear 8 = .ok (.aload_n 0, 1) := by decide +kernel
theorem dX7_clear_9 : decode cX7_clear 9 = .ok (.getfield 19, 3) := by decide +kernel
theorem dX7_clear_12 : decode cX7_clear 12 = .ok (.iconst 0, 1) := by decide +kernel
theorem dX7_clear_13 : decode cX7_clear 13 = .ok (.putfield 66, 3) := by decide +kernel
theorem dX7_clear_16 : decode cX7_clear 16 = .ok (.aload_n 0, 1) := by decide +kernel
theorem dX7_clear_17 : decode cX7_clear 17 = .ok (.getfield 19, 3) := by decide +kernel
theorem dX7_clear_20 : decode cX7_clear 20 = .ok (.iconst 0, 1) := by decide +kernel
theorem dX7_clear_21 : decode cX7_clear 21 = .ok (.putfield 94, 3) := by decide +kernel
theorem dX7_clear_24 : decode cX7_clear 24 = .ok (.aload_n 0, 1) := by decide +kernel
theorem dX7_clear_25 : decode cX7_clear 25 = .ok (.getfield 10, 3) := by decide +kernel
theorem dX7_clear_28 : decode cX7_clear 28 = .ok (.iconst 0, 1) := by decide +kernel
theorem dX7_clear_29 : decode cX7_clear 29 = .ok (.putfield 73, 3) := by decide +kernel
theorem dX7_clear_32 : decode cX7_clear 32 = .ok (.iload_n 1, 1) := by decide +kernel
theorem dX7_clear_33 : decode cX7_clear 33 = .ok (.ireturn, 1) := by decide +kernel
set_option maxRecDepth 20000 in
theorem ggX7_about_X2_has : GoodIn wsX7_about wsX2_has := goodIn_r _ [10, 11, 19, 20, 21, 22, 23, 24, 25, 26] (by decide +kernel) (by decide +kernel)
set_option maxRecDepth 20000 in
theorem gX7_about_X2_has : GoodIn wsX7_about (wsV RX7 108 RX2 yX2_has wsX2_has) := goodIn_app (goodIn_of _ (by decide +kernel)) ggX7_about_X2_has
theorem dX7_about_0 : decode cX7_about 0 = .ok (.aload_n 0, 1) := by decide +kernel
theorem dX7_about_1 : decode cX7_about 1 = .ok (.getfield 19, 3) := by decide +kernel
theorem dX7_about_4 : decode cX7_about 4 = .ok (.iload_n 1, 1) := by decide +kernel
theorem dX7_about_5 : decode cX7_about 5 = .ok (.invokevirtual 108, 3) := by decide +kernel
theorem dX7_about_8 : decode cX7_about 8 = .ok (.ifCond .ne 5, 3) := by decide +kernel
theorem dX7_about_11 : decode cX7_about 11 = .ok (.iconst (-1), 1) := by decide +kernel
theorem dX7_about_12 : decode cX7_about 12 = .ok (.ireturn, 1) := by decide +kernel
theorem dX7_about_13 : decode cX7_about 13 = .ok (.iload_n 2, 1) := by decide +kernel
theorem dX7_about_14 : decode cX7_about 14 = .ok (.tableswitch 78 0 3 #[30, 40, 50, 68], 30) := by decide +kernel
theorem dX7_about_44 : decode cX7_about 44 = .ok (.aload_n 0, 1) := by decide +kernel
theorem dX7_about_45 : decode cX7_about 45 = .ok (.getfield 19, 3) := by decide +kernel
theorem dX7_about_48 : decode cX7_about 48 = .ok (.getfield 101, 3) := by decide +kernel
theorem dX7_about_51 : decode cX7_about 51 = .ok (.iload_n 1, 1) := by decide +kernel
theorem dX7_about_52 : decode cX7_about 52 = .ok (.iaload, 1) := by decide +kernel
theorem dX7_about_53 : decode cX7_about 53 = .ok (.ireturn, 1) := by decide +kernel
theorem dX7_about_54 : decode cX7_about 54 = .ok (.aload_n 0, 1) := by decide +kernel
theorem dX7_about_55 : decode cX7_about 55 = .ok (.getfield 19, 3) := by decide +kernel
theorem dX7_about_58 : decode cX7_about 58 = .ok (.getfield 124, 3) := by decide +kernel
theorem dX7_about_61 : decode cX7_about 61 = .ok (.iload_n 1, 1) := by decide +kernel
theorem dX7_about_62 : decode cX7_about 62 = .ok (.iaload, 1) := by decide +kernel
theorem dX7_about_63 : decode cX7_about 63 = .ok (.ireturn, 1) := by decide +kernel
theorem dX7_about_64 : decode cX7_about 64 = .ok (.aload_n 0, 1) := by decide +kernel
