theorem dX0_init_0 : decode cX0_init 0 = .ok (.aload_n 0, 1) := by decide +kernel
theorem dX0_init_1 : decode cX0_init 1 = .ok (.invokespecial 1, 3) := by decide +kernel
theorem dX0_init_4 : decode cX0_init 4 = .ok (.aload_n 0, 1) := by decide +kernel
theorem dX0_init_5 : decode cX0_init 5 = .ok (.sipush 10000, 3) := by decide +kernel
theorem dX0_init_8 : decode cX0_init 8 = .ok (.putfield 7, 3) := by decide +kernel
theorem dX0_init_11 : decode cX0_init 11 = .ok (.aload_n 0, 1) := by decide +kernel
theorem dX0_init_12 : decode cX0_init 12 = .ok (.bipush 10, 2) := by decide +kernel
theorem dX0_init_14 : decode cX0_init 14 = .ok (.putfield 13, 3) := by decide +kernel
theorem dX0_init_17 : decode cX0_init 17 = .ok (.aload_n 0, 1) := by decide +kernel
theorem dX0_init_18 : decode cX0_init 18 = .ok (.iconst 4, 1) := by decide +kernel
theorem dX0_init_19 : decode cX0_init 19 = .ok (.putfield 16, 3) := by decide +kernel
theorem dX0_init_22 : decode cX0_init 22 = .ok (.aload_n 0, 1) := by decide +kernel
theorem dX0_init_23 : decode cX0_init 23 = .ok (.bipush 100, 2) := by decide +kernel
theorem dX0_init_25 : decode cX0_init 25 = .ok (.putfield 19, 3) := by decide +kernel
theorem dX0_init_28 : decode cX0_init 28 = .ok (.aload_n 0, 1) := by decide +kernel
theorem dX0_init_29 : decode cX0_init 29 = .ok (.sipush 1400, 3) := by decide +kernel
theorem dX0_init_32 : decode cX0_init 32 = .ok (.putfield 22, 3) := by decide +kernel
theorem dX0_init_35 : decode cX0_init 35 = .ok (.return_, 1) := by decide +kernel
theorem dX0_lower_0 : decode cX0_lower 0 = .ok (.ldc2_w 25, 3) := by decide +kernel
theorem dX0_lower_3 : decode cX0_lower 3 = .ok (.aload_n 0, 1) := by decide +kernel
theorem dX0_lower_4 : decode cX0_lower 4 = .ok (.getfield 16, 3) := by decide +kernel
theorem dX0_lower_7 : decode cX0_lower 7 = .ok (.i2l, 1) := by decide +kernel
theorem dX0_lower_8 : decode cX0_lower 8 = .ok (.lmul, 1) := by decide +kernel
theorem dX0_lower_9 : decode cX0_lower 9 = .ok (.aload_n 0, 1) := by decide +kernel
theorem dX0_lower_10 : decode cX0_lower 10 = .ok (.getfield 16, 3) := by decide +kernel
theorem dX0_lower_13 : decode cX0_lower 13 = .ok (.i2l, 1) := by decide +kernel
theorem dX0_lower_14 : decode cX0_lower 14 = .ok (.lmul, 1) := by decide +kernel
theorem dX0_lower_15 : decode cX0_lower 15 = .ok (.aload_n 0, 1) := by decide +kernel
theorem dX0_lower_16 : decode cX0_lower 16 = .ok (.getfield 7, 3) := by decide +kernel
theorem dX0_lower_19 : decode cX0_lower 19 = .ok (.i2l, 1) := by decide +kernel
theorem dX0_lower_20 : decode cX0_lower 20 = .ok (.lmul, 1) := by decide +kernel
theorem dX0_lower_21 : decode cX0_lower 21 = .ok (.lreturn, 1) := by decide +kernel
theorem dX0_sagUpper_0 : decode cX0_sagUpper 0 = .ok (.iconst 2, 1) := by decide +kernel
theorem dX0_sagUpper_1 : decode cX0_sagUpper 1 = .ok (.aload_n 0, 1) := by decide +kernel
theorem dX0_sagUpper_2 : decode cX0_sagUpper 2 = .ok (.getfield 16, 3) := by decide +kernel
theorem dX0_sagUpper_5 : decode cX0_sagUpper 5 = .ok (.imul, 1) := by decide +kernel
theorem dX0_sagUpper_6 : decode cX0_sagUpper 6 = .ok (.istore_n 3, 1) := by decide +kernel
theorem dX0_sagUpper_7 : decode cX0_sagUpper 7 = .ok (.iconst 2, 1) := by decide +kernel
theorem dX0_sagUpper_8 : decode cX0_sagUpper 8 = .ok (.iload_n 2, 1) := by decide +kernel
theorem dX0_sagUpper_9 : decode cX0_sagUpper 9 = .ok (.imul, 1) := by decide +kernel
theorem dX0_sagUpper_10 : decode cX0_sagUpper 10 = .ok (.iconst 1, 1) := by decide +kernel
theorem dX0_sagUpper_11 : decode cX0_sagUpper 11 = .ok (.iadd, 1) := by decide +kernel
theorem dX0_sagUpper_12 : decode cX0_sagUpper 12 = .ok (.istore 4, 2) := by decide +kernel
theorem dX0_sagUpper_14 : decode cX0_sagUpper 14 = .ok (.lconst 0, 1) := by decide +kernel
theorem dX0_sagUpper_15 : decode cX0_sagUpper 15 = .ok (.lstore 5, 2) := by decide +kernel
theorem dX0_sagUpper_17 : decode cX0_sagUpper 17 = .ok (.iconst 0, 1) := by decide +kernel
theorem dX0_sagUpper_18 : decode cX0_sagUpper 18 = .ok (.istore 7, 2) := by decide +kernel
theorem dX0_sagUpper_20 : decode cX0_sagUpper 20 = .ok (.iload 7, 2) := by decide +kernel
theorem dX0_sagUpper_22 : decode cX0_sagUpper 22 = .ok (.aload_n 0, 1) := by decide +kernel
theorem dX0_sagUpper_23 : decode cX0_sagUpper 23 = .ok (.getfield 16, 3) := by decide +kernel
theorem dX0_sagUpper_26 : decode cX0_sagUpper 26 = .ok (.if_icmp .ge 40, 3) := by decide +kernel
theorem dX0_sagUpper_29 : decode cX0_sagUpper 29 = .ok (.iconst 2, 1) := by decide +kernel
theorem dX0_sagUpper_30 : decode cX0_sagUpper 30 = .ok (.iload 7, 2) := by decide +kernel
theorem dX0_sagUpper_32 : decode cX0_sagUpper 32 = .ok (.imul, 1) := by decide +kernel
theorem dX0_sagUpper_33 : decode cX0_sagUpper 33 = .ok (.iconst 1, 1) := by decide +kernel
theorem dX0_sagUpper_34 : decode cX0_sagUpper 34 = .ok (.iadd, 1) := by decide +kernel
theorem dX0_sagUpper_35 : decode cX0_sagUpper 35 = .ok (.istore 8, 2) := by decide +kernel
theorem dX0_sagUpper_37 : decode cX0_sagUpper 37 = .ok (.lload 5, 2) := by decide +kernel
theorem dX0_sagUpper_39 : decode cX0_sagUpper 39 = .ok (.iload 4, 2) := by decide +kernel
theorem dX0_sagUpper_41 : decode cX0_sagUpper 41 = .ok (.iload 8, 2) := by decide +kernel
theorem dX0_sagUpper_43 : decode cX0_sagUpper 43 = .ok (.invokestatic 27, 3) := by decide +kernel
theorem dX0_sagUpper_46 : decode cX0_sagUpper 46 = .ok (.iload_n 3, 1) := by decide +kernel
theorem dX0_sagUpper_47 : decode cX0_sagUpper 47 = .ok (.iload 4, 2) := by decide +kernel
theorem dX0_sagUpper_49 : decode cX0_sagUpper 49 = .ok (.iload 8, 2) := by decide +kernel
theorem dX0_sagUpper_51 : decode cX0_sagUpper 51 = .ok (.invokestatic 33, 3) := by decide +kernel
theorem dX0_sagUpper_54 : decode cX0_sagUpper 54 = .ok (.isub, 1) := by decide +kernel
theorem dX0_sagUpper_55 : decode cX0_sagUpper 55 = .ok (.imul, 1) := by decide +kernel
theorem dX0_sagUpper_56 : decode cX0_sagUpper 56 = .ok (.i2l, 1) := by decide +kernel
theorem dX0_sagUpper_57 : decode cX0_sagUpper 57 = .ok (.ladd, 1) := by decide +kernel
theorem dX0_sagUpper_58 : decode cX0_sagUpper 58 = .ok (.lstore 5, 2) := by decide +kernel
theorem dX0_sagUpper_60 : decode cX0_sagUpper 60 = .ok (.iinc 7 1, 3) := by decide +kernel
theorem dX0_sagUpper_63 : decode cX0_sagUpper 63 = .ok (.goto (-43), 3) := by decide +kernel
theorem dX0_sagUpper_66 : decode cX0_sagUpper 66 = .ok (.aload_n 0, 1) := by decide +kernel
theorem dX0_sagUpper_67 : decode cX0_sagUpper 67 = .ok (.getfield 13, 3) := by decide +kernel
theorem dX0_sagUpper_70 : decode cX0_sagUpper 70 = .ok (.i2l, 1) := by decide +kernel
theorem dX0_sagUpper_71 : decode cX0_sagUpper 71 = .ok (.iload_n 1, 1) := by decide +kernel
theorem dX0_sagUpper_72 : decode cX0_sagUpper 72 = .ok (.i2l, 1) := by decide +kernel
theorem dX0_sagUpper_73 : decode cX0_sagUpper 73 = .ok (.lmul, 1) := by decide +kernel
theorem dX0_sagUpper_74 : decode cX0_sagUpper 74 = .ok (.iload_n 1, 1) := by decide +kernel
theorem dX0_sagUpper_75 : decode cX0_sagUpper 75 = .ok (.i2l, 1) := by decide +kernel
theorem dX0_sagUpper_76 : decode cX0_sagUpper 76 = .ok (.lmul, 1) := by decide +kernel
theorem dX0_sagUpper_77 : decode cX0_sagUpper 77 = .ok (.iload 4, 2) := by decide +kernel
theorem dX0_sagUpper_79 : decode cX0_sagUpper 79 = .ok (.i2l, 1) := by decide +kernel
theorem dX0_sagUpper_80 : decode cX0_sagUpper 80 = .ok (.lmul, 1) := by decide +kernel
theorem dX0_sagUpper_81 : decode cX0_sagUpper 81 = .ok (.iload_n 3, 1) := by decide +kernel
theorem dX0_sagUpper_82 : decode cX0_sagUpper 82 = .ok (.iload 4, 2) := by decide +kernel
theorem dX0_sagUpper_84 : decode cX0_sagUpper 84 = .ok (.isub, 1) := by decide +kernel
theorem dX0_sagUpper_85 : decode cX0_sagUpper 85 = .ok (.i2l, 1) := by decide +kernel
theorem dX0_sagUpper_86 : decode cX0_sagUpper 86 = .ok (.lmul, 1) := by decide +kernel
theorem dX0_sagUpper_87 : decode cX0_sagUpper 87 = .ok (.lstore 7, 2) := by decide +kernel
theorem dX0_sagUpper_89 : decode cX0_sagUpper 89 = .ok (.lload 7, 2) := by decide +kernel
theorem dX0_sagUpper_91 : decode cX0_sagUpper 91 = .ok (.ldc2_w 36, 3) := by decide +kernel
theorem dX0_sagUpper_94 : decode cX0_sagUpper 94 = .ok (.aload_n 0, 1) := by decide +kernel
theorem dX0_sagUpper_95 : decode cX0_sagUpper 95 = .ok (.getfield 19, 3) := by decide +kernel
theorem dX0_sagUpper_98 : decode cX0_sagUpper 98 = .ok (.i2l, 1) := by decide +kernel
theorem dX0_sagUpper_99 : decode cX0_sagUpper 99 = .ok (.lmul, 1) := by decide +kernel
theorem dX0_sagUpper_100 : decode cX0_sagUpper 100 = .ok (.iload_n 1, 1) := by decide +kernel
theorem dX0_sagUpper_101 : decode cX0_sagUpper 101 = .ok (.i2l, 1) := by decide +kernel
theorem dX0_sagUpper_102 : decode cX0_sagUpper 102 = .ok (.lmul, 1) := by decide +kernel
theorem dX0_sagUpper_103 : decode cX0_sagUpper 103 = .ok (.lload 5, 2) := by decide +kernel
theorem dX0_sagUpper_105 : decode cX0_sagUpper 105 = .ok (.lmul, 1) := by decide +kernel
theorem dX0_sagUpper_106 : decode cX0_sagUpper 106 = .ok (.ladd, 1) := by decide +kernel
theorem dX0_sagUpper_107 : decode cX0_sagUpper 107 = .ok (.lreturn, 1) := by decide +kernel
set_option maxRecDepth 20000 in
theorem ggX0_lengthUpper_X0_lower : GoodIn wsX0_lengthUpper wsX0_lower := goodIn_r _ [6, 7, 8, 9, 24, 25, 26, 27, 28] (by decide +kernel) (by decide +kernel)
set_option maxRecDepth 20000 in
theorem gX0_lengthUpper_X0_lower : GoodIn wsX0_lengthUpper (wsV RX0 38 RX0 yX0_lower wsX0_lower) := goodIn_app (goodIn_of _ (by decide +kernel)) ggX0_lengthUpper_X0_lower
set_option maxRecDepth 20000 in
theorem ggX0_lengthUpper_X0_sagUpper : GoodIn wsX0_lengthUpper wsX0_sagUpper := goodIn_r _ [13, 8, 14, 15, 16, 17, 18, 19, 20, 21, 22, 23, 24, 25, 26, 27, 28] (by decide +kernel) (by decide +kernel)
set_option maxRecDepth 20000 in
theorem gX0_lengthUpper_X0_sagUpper : GoodIn wsX0_lengthUpper (wsV RX0 42 RX0 yX0_sagUpper wsX0_sagUpper) := goodIn_app (goodIn_of _ (by decide +kernel)) ggX0_lengthUpper_X0_sagUpper
theorem dX0_lengthUpper_0 : decode cX0_lengthUpper 0 = .ok (.aload_n 0, 1) := by decide +kernel
theorem dX0_lengthUpper_1 : decode cX0_lengthUpper 1 = .ok (.getfield 22, 3) := by decide +kernel
theorem dX0_lengthUpper_4 : decode cX0_lengthUpper 4 = .ok (.i2l, 1) := by decide +kernel
theorem dX0_lengthUpper_5 : decode cX0_lengthUpper 5 = .ok (.aload_n 0, 1) := by decide +kernel
theorem dX0_lengthUpper_6 : decode cX0_lengthUpper 6 = .ok (.invokevirtual 38, 3) := by decide +kernel
theorem dX0_lengthUpper_9 : decode cX0_lengthUpper 9 = .ok (.lmul, 1) := by decide +kernel
theorem dX0_lengthUpper_10 : decode cX0_lengthUpper 10 = .ok (.aload_n 0, 1) := by decide +kernel
theorem dX0_lengthUpper_11 : decode cX0_lengthUpper 11 = .ok (.iload_n 1, 1) := by decide +kernel
theorem dX0_lengthUpper_12 : decode cX0_lengthUpper 12 = .ok (.iload_n 2, 1) := by decide +kernel
theorem dX0_lengthUpper_13 : decode cX0_lengthUpper 13 = .ok (.invokevirtual 42, 3) := by decide +kernel
theorem dX0_lengthUpper_16 : decode cX0_lengthUpper 16 = .ok (.lsub, 1) := by decide +kernel
theorem dX0_lengthUpper_17 : decode cX0_lengthUpper 17 = .ok (.lreturn, 1) := by decide +kernel
set_option maxRecDepth 20000 in
theorem ggX0_cutUp_X0_lower : GoodIn wsX0_cutUp wsX0_lower := goodIn_r _ [5, 6, 7, 8, 32, 33, 34, 35, 36] (by decide +kernel) (by decide +kernel)
set_option maxRecDepth 20000 in
theorem gX0_cutUp_X0_lower : GoodIn wsX0_cutUp (wsV RX0 38 RX0 yX0_lower wsX0_lower) := goodIn_app (goodIn_of _ (by decide +kernel)) ggX0_cutUp_X0_lower
set_option maxRecDepth 20000 in
theorem ggX0_cutUp_X0_lengthUpper : GoodIn wsX0_cutUp wsX0_lengthUpper := goodIn_r _ [12, 13, 1, 2, 3, 4, 5, 6, 7, 8, 14, 15, 16, 17, 18, 19, 20, 21, 22, 23, 24, 25, 26, 27, 32, 33, 34, 35, 36] (by decide +kernel) (by decide +kernel)
set_option maxRecDepth 20000 in
theorem gX0_cutUp_X0_lengthUpper : GoodIn wsX0_cutUp (wsV RX0 46 RX0 yX0_lengthUpper wsX0_lengthUpper) := goodIn_app (goodIn_of _ (by decide +kernel)) ggX0_cutUp_X0_lengthUpper
set_option maxRecDepth 20000 in
theorem ggX0_cutUp_J9_floorDiv_f86c9 : GoodIn wsX0_cutUp wsJ9_floorDiv_f86c9 := goodIn_r _ [31] (by decide +kernel) (by decide +kernel)
set_option maxRecDepth 20000 in
theorem gX0_cutUp_J9_floorDiv_f86c9 : GoodIn wsX0_cutUp (va_wsS RX0 49 yJ9_floorDiv_f86c9 wsJ9_floorDiv_f86c9) := goodIn_app (goodIn_of _ (by decide +kernel)) ggX0_cutUp_J9_floorDiv_f86c9
theorem dX0_cutUp_0 : decode cX0_cutUp 0 = .ok (.aload_n 0, 1) := by decide +kernel
theorem dX0_cutUp_1 : decode cX0_cutUp 1 = .ok (.invokevirtual 38, 3) := by decide +kernel
theorem dX0_cutUp_4 : decode cX0_cutUp 4 = .ok (.lstore_n 3, 1) := by decide +kernel
theorem dX0_cutUp_5 : decode cX0_cutUp 5 = .ok (.lload_n 3, 1) := by decide +kernel
theorem dX0_cutUp_6 : decode cX0_cutUp 6 = .ok (.lconst 0, 1) := by decide +kernel
theorem dX0_cutUp_7 : decode cX0_cutUp 7 = .ok (.lcmp, 1) := by decide +kernel
theorem dX0_cutUp_8 : decode cX0_cutUp 8 = .ok (.ifCond .gt 5, 3) := by decide +kernel
theorem dX0_cutUp_11 : decode cX0_cutUp 11 = .ok (.iconst 0, 1) := by decide +kernel
theorem dX0_cutUp_12 : decode cX0_cutUp 12 = .ok (.ireturn, 1) := by decide +kernel
theorem dX0_cutUp_13 : decode cX0_cutUp 13 = .ok (.aload_n 0, 1) := by decide +kernel
theorem dX0_cutUp_14 : decode cX0_cutUp 14 = .ok (.iload_n 1, 1) := by decide +kernel
theorem dX0_cutUp_15 : decode cX0_cutUp 15 = .ok (.iload_n 2, 1) := by decide +kernel
theorem dX0_cutUp_16 : decode cX0_cutUp 16 = .ok (.invokevirtual 46, 3) := by decide +kernel
theorem dX0_cutUp_19 : decode cX0_cutUp 19 = .ok (.lneg, 1) := by decide +kernel
theorem dX0_cutUp_20 : decode cX0_cutUp 20 = .ok (.lload_n 3, 1) := by decide +kernel
theorem dX0_cutUp_21 : decode cX0_cutUp 21 = .ok (.invokestatic 49, 3) := by decide +kernel
theorem dX0_cutUp_24 : decode cX0_cutUp 24 = .ok (.lneg, 1) := by decide +kernel
theorem dX0_cutUp_25 : decode cX0_cutUp 25 = .ok (.l2i, 1) := by decide +kernel
theorem dX0_cutUp_26 : decode cX0_cutUp 26 = .ok (.ireturn, 1) := by decide +kernel
theorem dX0_weight_0 : decode cX0_weight 0 = .ok (.aload_n 0, 1) := by decide +kernel
theorem dX0_weight_1 : decode cX0_weight 1 = .ok (.getfield 13, 3) := by decide +kernel
theorem dX0_weight_4 : decode cX0_weight 4 = .ok (.i2l, 1) := by decide +kernel
theorem dX0_weight_5 : decode cX0_weight 5 = .ok (.iload_n 1, 1) := by decide +kernel
theorem dX0_weight_6 : decode cX0_weight 6 = .ok (.i2l, 1) := by decide +kernel
theorem dX0_weight_7 : decode cX0_weight 7 = .ok (.lmul, 1) := by decide +kernel
theorem dX0_weight_8 : decode cX0_weight 8 = .ok (.aload_n 0, 1) := by decide +kernel
theorem dX0_weight_9 : decode cX0_weight 9 = .ok (.getfield 16, 3) := by decide +kernel
theorem dX0_weight_12 : decode cX0_weight 12 = .ok (.i2l, 1) := by decide +kernel
theorem dX0_weight_13 : decode cX0_weight 13 = .ok (.aload_n 0, 1) := by decide +kernel
theorem dX0_weight_14 : decode cX0_weight 14 = .ok (.getfield 19, 3) := by decide +kernel
theorem dX0_weight_17 : decode cX0_weight 17 = .ok (.i2l, 1) := by decide +kernel
theorem dX0_weight_18 : decode cX0_weight 18 = .ok (.lmul, 1) := by decide +kernel
theorem dX0_weight_19 : decode cX0_weight 19 = .ok (.ladd, 1) := by decide +kernel
theorem dX0_weight_20 : decode cX0_weight 20 = .ok (.lreturn, 1) := by decide +kernel
theorem dX1_init_0 : decode cX1_init 0 = .ok (.aload_n 0, 1) := by decide +kernel
theorem dX1_init_1 : decode cX1_init 1 = .ok (.invokespecial 5, 3) := by decide +kernel
theorem dX1_init_4 : decode cX1_init 4 = .ok (.aload_n 0, 1) := by decide +kernel
theorem dX1_init_5 : decode cX1_init 5 = .ok (.bipush 120, 2) := by decide +kernel
theorem dX1_init_7 : decode cX1_init 7 = .ok (.newarray .int, 2) := by decide +kernel
theorem dX1_init_9 : decode cX1_init 9 = .ok (.putfield 13, 3) := by decide +kernel
theorem dX1_init_12 : decode cX1_init 12 = .ok (.aload_n 0, 1) := by decide +kernel
theorem dX1_init_13 : decode cX1_init 13 = .ok (.bipush 120, 2) := by decide +kernel
theorem dX1_init_15 : decode cX1_init 15 = .ok (.newarray .int, 2) := by decide +kernel
theorem dX1_init_17 : decode cX1_init 17 = .ok (.putfield 17, 3) := by decide +kernel
theorem dX1_init_20 : decode cX1_init 20 = .ok (.aload_n 0, 1) := by decide +kernel
theorem dX1_init_21 : decode cX1_init 21 = .ok (.aload_n 1, 1) := by decide +kernel
theorem dX1_init_22 : decode cX1_init 22 = .ok (.putfield 20, 3) := by decide +kernel
theorem dX1_init_25 : decode cX1_init 25 = .ok (.aload_n 0, 1) := by decide +kernel
theorem dX1_init_26 : decode cX1_init 26 = .ok (.aload_n 2, 1) := by decide +kernel
theorem dX1_init_27 : decode cX1_init 27 = .ok (.putfield 24, 3) := by decide +kernel
theorem dX1_init_30 : decode cX1_init 30 = .ok (.return_, 1) := by decide +kernel
set_option maxRecDepth 20000 in
theorem ggX1_countSpans_X1_layBetween : GoodIn wsX1_countSpans wsX1_layBetween := goodIn_r _ [7, 2, 8, 9, 10, 6, 11, 1, 12, 13, 14, 15, 16, 17, 18, 19, 20, 21, 22, 23, 72, 73, 74, 75, 76, 77, 78, 79, 80, 81, 82, 83, 84, 85, 86, 87, 88, 89, 90, 91, 92] (by decide +kernel) (by decide +kernel)
set_option maxRecDepth 20000 in
theorem gX1_countSpans_X1_layBetween : GoodIn wsX1_countSpans (wsV RX1 32 RX1 yX1_layBetween wsX1_layBetween) := goodIn_app (goodIn_of _ (by decide +kernel)) ggX1_countSpans_X1_layBetween
set_option maxRecDepth 20000 in
theorem ggX1_countSpans_X4_isKept : GoodIn wsX1_countSpans wsX4_isKept := goodIn_r _ [27, 20, 19, 28, 29, 30, 31, 32, 33, 34, 35, 36, 37, 15, 38, 39, 40, 41, 42, 43, 44, 45, 46, 47, 48, 49, 50, 22, 23, 51, 52, 53, 54, 55, 56, 57, 58, 59, 60, 61, 62, 63, 64, 65, 66, 67, 68, 69, 70, 71, 78, 79, 80, 81, 82, 83, 84, 93, 94, 95, 96, 97, 98, 99, 100, 101] (by decide +kernel) (by decide +kernel)
set_option maxRecDepth 20000 in
theorem gX1_countSpans_X4_isKept : GoodIn wsX1_countSpans (wsV RX1 36 RX4 yX4_isKept wsX4_isKept) := goodIn_app (goodIn_of _ (by decide +kernel)) ggX1_countSpans_X4_isKept
theorem dX1_countSpans_0 : decode cX1_countSpans 0 = .ok (.aload_n 0, 1) := by decide +kernel
theorem dX1_countSpans_1 : decode cX1_countSpans 1 = .ok (.iload_n 3, 1) := by decide +kernel
theorem dX1_countSpans_2 : decode cX1_countSpans 2 = .ok (.putfield 28, 3) := by decide +kernel
theorem dX1_countSpans_5 : decode cX1_countSpans 5 = .ok (.iconst 0, 1) := by decide +kernel
theorem dX1_countSpans_6 : decode cX1_countSpans 6 = .ok (.istore 4, 2) := by decide +kernel
theorem dX1_countSpans_8 : decode cX1_countSpans 8 = .ok (.iconst 0, 1) := by decide +kernel
theorem dX1_countSpans_9 : decode cX1_countSpans 9 = .ok (.istore 5, 2) := by decide +kernel
theorem dX1_countSpans_11 : decode cX1_countSpans 11 = .ok (.iload 5, 2) := by decide +kernel
theorem dX1_countSpans_13 : decode cX1_countSpans 13 = .ok (.iconst 3, 1) := by decide +kernel
theorem dX1_countSpans_14 : decode cX1_countSpans 14 = .ok (.if_icmp .ge 53, 3) := by decide +kernel
theorem dX1_countSpans_17 : decode cX1_countSpans 17 = .ok (.iconst 0, 1) := by decide +kernel
theorem dX1_countSpans_18 : decode cX1_countSpans 18 = .ok (.istore 6, 2) := by decide +kernel
theorem dX1_countSpans_20 : decode cX1_countSpans 20 = .ok (.iload 6, 2) := by decide +kernel
theorem dX1_countSpans_22 : decode cX1_countSpans 22 = .ok (.iconst 3, 1) := by decide +kernel
theorem dX1_countSpans_23 : decode cX1_countSpans 23 = .ok (.if_icmp .ge 38, 3) := by decide +kernel
theorem dX1_countSpans_26 : decode cX1_countSpans 26 = .ok (.aload_n 0, 1) := by decide +kernel
theorem dX1_countSpans_27 : decode cX1_countSpans 27 = .ok (.iconst 3, 1) := by decide +kernel
theorem dX1_countSpans_28 : decode cX1_countSpans 28 = .ok (.iload_n 1, 1) := by decide +kernel
theorem dX1_countSpans_29 : decode cX1_countSpans 29 = .ok (.imul, 1) := by decide +kernel
theorem dX1_countSpans_30 : decode cX1_countSpans 30 = .ok (.iload 5, 2) := by decide +kernel
theorem dX1_countSpans_32 : decode cX1_countSpans 32 = .ok (.iadd, 1) := by decide +kernel
theorem dX1_countSpans_33 : decode cX1_countSpans 33 = .ok (.iconst 3, 1) := by decide +kernel
theorem dX1_countSpans_34 : decode cX1_countSpans 34 = .ok (.iload_n 2, 1) := by decide +kernel
theorem dX1_countSpans_35 : decode cX1_countSpans 35 = .ok (.imul, 1) := by decide +kernel
theorem dX1_countSpans_36 : decode cX1_countSpans 36 = .ok (.iload 6, 2) := by decide +kernel
theorem dX1_countSpans_38 : decode cX1_countSpans 38 = .ok (.iadd, 1) := by decide +kernel
theorem dX1_countSpans_39 : decode cX1_countSpans 39 = .ok (.invokevirtual 32, 3) := by decide +kernel
theorem dX1_countSpans_42 : decode cX1_countSpans 42 = .ok (.aload_n 0, 1) := by decide +kernel
theorem dX1_countSpans_43 : decode cX1_countSpans 43 = .ok (.getfield 24, 3) := by decide +kernel
theorem dX1_countSpans_46 : decode cX1_countSpans 46 = .ok (.invokevirtual 36, 3) := by decide +kernel
theorem dX1_countSpans_49 : decode cX1_countSpans 49 = .ok (.ifCond .eq 6, 3) := by decide +kernel
theorem dX1_countSpans_52 : decode cX1_countSpans 52 = .ok (.iinc 4 1, 3) := by decide +kernel
theorem dX1_countSpans_55 : decode cX1_countSpans 55 = .ok (.iinc 6 1, 3) := by decide +kernel
theorem dX1_countSpans_58 : decode cX1_countSpans 58 = .ok (.goto (-38), 3) := by decide +kernel
theorem dX1_countSpans_61 : decode cX1_countSpans 61 = .ok (.iinc 5 1, 3) := by decide +kernel
theorem dX1_countSpans_64 : decode cX1_countSpans 64 = .ok (.goto (-53), 3) := by decide +kernel
theorem dX1_countSpans_67 : decode cX1_countSpans 67 = .ok (.iload 4, 2) := by decide +kernel
theorem dX1_countSpans_69 : decode cX1_countSpans 69 = .ok (.ireturn, 1) := by decide +kernel
set_option maxRecDepth 20000 in
theorem ggX1_findCheapest_X1_settle : GoodIn wsX1_findCheapest wsX1_settle := goodIn_r _ [11, 5, 2, 3, 12, 6, 13, 14, 15, 16, 17, 10, 18, 19, 20, 21, 22, 1, 23, 24, 25, 26, 27, 28, 29, 30, 31, 32, 33, 34, 35, 36, 37, 38, 39, 40, 41, 42, 43, 44, 45, 46, 47, 48, 49, 50, 51, 52, 53, 54, 55, 56, 57, 58, 59, 60, 61, 62, 63, 64, 65, 66, 67, 68, 69, 70, 71, 72, 73, 74, 75, 76, 77, 78, 79, 80, 81, 82, 83, 84, 85, 86, 87, 88, 89, 90, 91, 92, 93, 94, 95, 96, 97, 98, 99, 100, 101, 102, 103, 104, 105, 106, 107, 108, 109, 110, 111, 112] (by decide +kernel) (by decide +kernel)
set_option maxRecDepth 20000 in
theorem gX1_findCheapest_X1_settle : GoodIn wsX1_findCheapest (wsV RX1 47 RX1 yX1_settle wsX1_settle) := goodIn_app (goodIn_of _ (by decide +kernel)) ggX1_findCheapest_X1_settle
theorem dX1_findCheapest_0 : decode cX1_findCheapest 0 = .ok (.aload_n 0, 1) := by decide +kernel
theorem dX1_findCheapest_1 : decode cX1_findCheapest 1 = .ok (.iload_n 1, 1) := by decide +kernel
theorem dX1_findCheapest_2 : decode cX1_findCheapest 2 = .ok (.putfield 28, 3) := by decide +kernel
theorem dX1_findCheapest_5 : decode cX1_findCheapest 5 = .ok (.iconst 3, 1) := by decide +kernel
theorem dX1_findCheapest_6 : decode cX1_findCheapest 6 = .ok (.aload_n 0, 1) := by decide +kernel
theorem dX1_findCheapest_7 : decode cX1_findCheapest 7 = .ok (.getfield 20, 3) := by decide +kernel
theorem dX1_findCheapest_10 : decode cX1_findCheapest 10 = .ok (.getfield 42, 3) := by decide +kernel
theorem dX1_findCheapest_13 : decode cX1_findCheapest 13 = .ok (.imul, 1) := by decide +kernel
theorem dX1_findCheapest_14 : decode cX1_findCheapest 14 = .ok (.istore_n 2, 1) := by decide +kernel
theorem dX1_findCheapest_15 : decode cX1_findCheapest 15 = .ok (.iload_n 2, 1) := by decide +kernel
theorem dX1_findCheapest_16 : decode cX1_findCheapest 16 = .ok (.iconst 1, 1) := by decide +kernel
theorem dX1_findCheapest_17 : decode cX1_findCheapest 17 = .ok (.isub, 1) := by decide +kernel
theorem dX1_findCheapest_18 : decode cX1_findCheapest 18 = .ok (.istore_n 3, 1) := by decide +kernel
theorem dX1_findCheapest_19 : decode cX1_findCheapest 19 = .ok (.iload_n 3, 1) := by decide +kernel
theorem dX1_findCheapest_20 : decode cX1_findCheapest 20 = .ok (.ifCond .lt 15, 3) := by decide +kernel
theorem dX1_findCheapest_23 : decode cX1_findCheapest 23 = .ok (.aload_n 0, 1) := by decide +kernel
theorem dX1_findCheapest_24 : decode cX1_findCheapest 24 = .ok (.iload_n 3, 1) := by decide +kernel
theorem dX1_findCheapest_25 : decode cX1_findCheapest 25 = .ok (.iload_n 2, 1) := by decide +kernel
theorem dX1_findCheapest_26 : decode cX1_findCheapest 26 = .ok (.invokevirtual 47, 3) := by decide +kernel
theorem dX1_findCheapest_29 : decode cX1_findCheapest 29 = .ok (.iinc 3 (-1), 3) := by decide +kernel
theorem dX1_findCheapest_32 : decode cX1_findCheapest 32 = .ok (.goto (-13), 3) := by decide +kernel
theorem dX1_findCheapest_35 : decode cX1_findCheapest 35 = .ok (.aload_n 0, 1) := by decide +kernel
theorem dX1_findCheapest_36 : decode cX1_findCheapest 36 = .ok (.iconst 0, 1) := by decide +kernel
theorem dX1_findCheapest_37 : decode cX1_findCheapest 37 = .ok (.putfield 50, 3) := by decide +kernel
theorem dX1_findCheapest_40 : decode cX1_findCheapest 40 = .ok (.iconst 1, 1) := by decide +kernel
theorem dX1_findCheapest_41 : decode cX1_findCheapest 41 = .ok (.istore_n 3, 1) := by decide +kernel
theorem dX1_findCheapest_42 : decode cX1_findCheapest 42 = .ok (.iload_n 3, 1) := by decide +kernel
theorem dX1_findCheapest_43 : decode cX1_findCheapest 43 = .ok (.iconst 3, 1) := by decide +kernel
theorem dX1_findCheapest_44 : decode cX1_findCheapest 44 = .ok (.if_icmp .ge 32, 3) := by decide +kernel
theorem dX1_findCheapest_47 : decode cX1_findCheapest 47 = .ok (.aload_n 0, 1) := by decide +kernel
theorem dX1_findCheapest_48 : decode cX1_findCheapest 48 = .ok (.getfield 13, 3) := by decide +kernel
theorem dX1_findCheapest_51 : decode cX1_findCheapest 51 = .ok (.iload_n 3, 1) := by decide +kernel
theorem dX1_findCheapest_52 : decode cX1_findCheapest 52 = .ok (.iaload, 1) := by decide +kernel
theorem dX1_findCheapest_53 : decode cX1_findCheapest 53 = .ok (.aload_n 0, 1) := by decide +kernel
theorem dX1_findCheapest_54 : decode cX1_findCheapest 54 = .ok (.getfield 13, 3) := by decide +kernel
theorem dX1_findCheapest_57 : decode cX1_findCheapest 57 = .ok (.aload_n 0, 1) := by decide +kernel
theorem dX1_findCheapest_58 : decode cX1_findCheapest 58 = .ok (.getfield 50, 3) := by decide +kernel
theorem dX1_findCheapest_61 : decode cX1_findCheapest 61 = .ok (.iaload, 1) := by decide +kernel
theorem dX1_findCheapest_62 : decode cX1_findCheapest 62 = .ok (.if_icmp .ge 8, 3) := by decide +kernel
theorem dX1_findCheapest_65 : decode cX1_findCheapest 65 = .ok (.aload_n 0, 1) := by decide +kernel
theorem dX1_findCheapest_66 : decode cX1_findCheapest 66 = .ok (.iload_n 3, 1) := by decide +kernel
theorem dX1_findCheapest_67 : decode cX1_findCheapest 67 = .ok (.putfield 50, 3) := by decide +kernel
theorem dX1_findCheapest_70 : decode cX1_findCheapest 70 = .ok (.iinc 3 1, 3) := by decide +kernel
theorem dX1_findCheapest_73 : decode cX1_findCheapest 73 = .ok (.goto (-31), 3) := by decide +kernel
theorem dX1_findCheapest_76 : decode cX1_findCheapest 76 = .ok (.aload_n 0, 1) := by decide +kernel
theorem dX1_findCheapest_77 : decode cX1_findCheapest 77 = .ok (.getfield 13, 3) := by decide +kernel
theorem dX1_findCheapest_80 : decode cX1_findCheapest 80 = .ok (.aload_n 0, 1) := by decide +kernel
theorem dX1_findCheapest_81 : decode cX1_findCheapest 81 = .ok (.getfield 50, 3) := by decide +kernel
theorem dX1_findCheapest_84 : decode cX1_findCheapest 84 = .ok (.iaload, 1) := by decide +kernel
theorem dX1_findCheapest_85 : decode cX1_findCheapest 85 = .ok (.ldc 53, 2) := by decide +kernel
theorem dX1_findCheapest_87 : decode cX1_findCheapest 87 = .ok (.if_icmp .eq 7, 3) := by decide +kernel
theorem dX1_findCheapest_90 : decode cX1_findCheapest 90 = .ok (.iconst 1, 1) := by decide +kernel
theorem dX1_findCheapest_91 : decode cX1_findCheapest 91 = .ok (.goto 4, 3) := by decide +kernel
theorem dX1_findCheapest_94 : decode cX1_findCheapest 94 = .ok (.iconst 0, 1) := by decide +kernel
theorem dX1_findCheapest_95 : decode cX1_findCheapest 95 = .ok (.ireturn, 1) := by decide +kernel
set_option maxRecDepth 20000 in
theorem ggX1_settle_X1_layBetween : GoodIn wsX1_settle wsX1_layBetween := goodIn_r _ [12, 7, 13, 14, 15, 11, 16, 17, 18, 19, 20, 21, 22, 23, 24, 25, 26, 27, 28, 29, 78, 79, 80, 81, 82, 83, 92, 93, 94, 95, 96, 97, 98, 84, 85, 86, 87, 88, 89, 90, 91] (by decide +kernel) (by decide +kernel)
set_option maxRecDepth 20000 in
theorem gX1_settle_X1_layBetween : GoodIn wsX1_settle (wsV RX1 32 RX1 yX1_layBetween wsX1_layBetween) := goodIn_app (goodIn_of _ (by decide +kernel)) ggX1_settle_X1_layBetween
set_option maxRecDepth 20000 in
theorem ggX1_settle_X4_isKept : GoodIn wsX1_settle wsX4_isKept := goodIn_r _ [33, 26, 25, 34, 35, 36, 37, 38, 39, 40, 41, 42, 43, 21, 44, 45, 46, 47, 48, 49, 50, 51, 52, 53, 54, 55, 56, 28, 29, 57, 58, 59, 60, 61, 62, 63, 64, 65, 66, 67, 68, 69, 70, 71, 72, 73, 74, 75, 76, 77, 92, 93, 94, 95, 96, 97, 98, 99, 100, 101, 102, 103, 104, 105, 106, 107] (by decide +kernel) (by decide +kernel)
set_option maxRecDepth 20000 in
theorem gX1_settle_X4_isKept : GoodIn wsX1_settle (wsV RX1 36 RX4 yX4_isKept wsX4_isKept) := goodIn_app (goodIn_of _ (by decide +kernel)) ggX1_settle_X4_isKept
theorem dX1_settle_0 : decode cX1_settle 0 = .ok (.iload_n 1, 1) := by decide +kernel
theorem dX1_settle_1 : decode cX1_settle 1 = .ok (.iconst 3, 1) := by decide +kernel
theorem dX1_settle_2 : decode cX1_settle 2 = .ok (.idiv, 1) := by decide +kernel
theorem dX1_settle_3 : decode cX1_settle 3 = .ok (.istore_n 3, 1) := by decide +kernel
theorem dX1_settle_4 : decode cX1_settle 4 = .ok (.aload_n 0, 1) := by decide +kernel
theorem dX1_settle_5 : decode cX1_settle 5 = .ok (.getfield 13, 3) := by decide +kernel
theorem dX1_settle_8 : decode cX1_settle 8 = .ok (.iload_n 1, 1) := by decide +kernel
theorem dX1_settle_9 : decode cX1_settle 9 = .ok (.iload_n 3, 1) := by decide +kernel
theorem dX1_settle_10 : decode cX1_settle 10 = .ok (.aload_n 0, 1) := by decide +kernel
theorem dX1_settle_11 : decode cX1_settle 11 = .ok (.getfield 20, 3) := by decide +kernel
theorem dX1_settle_14 : decode cX1_settle 14 = .ok (.getfield 42, 3) := by decide +kernel
theorem dX1_settle_17 : decode cX1_settle 17 = .ok (.iconst 1, 1) := by decide +kernel
theorem dX1_settle_18 : decode cX1_settle 18 = .ok (.isub, 1) := by decide +kernel
theorem dX1_settle_19 : decode cX1_settle 19 = .ok (.if_icmp .ne 15, 3) := by decide +kernel
theorem dX1_settle_22 : decode cX1_settle 22 = .ok (.aload_n 0, 1) := by decide +kernel
theorem dX1_settle_23 : decode cX1_settle 23 = .ok (.getfield 20, 3) := by decide +kernel
theorem dX1_settle_26 : decode cX1_settle 26 = .ok (.getfield 54, 3) := by decide +kernel
theorem dX1_settle_29 : decode cX1_settle 29 = .ok (.iload_n 3, 1) := by decide +kernel
theorem dX1_settle_30 : decode cX1_settle 30 = .ok (.iaload, 1) := by decide +kernel
theorem dX1_settle_31 : decode cX1_settle 31 = .ok (.goto 5, 3) := by decide +kernel
theorem dX1_settle_34 : decode cX1_settle 34 = .ok (.ldc 53, 2) := by decide +kernel
theorem dX1_settle_36 : decode cX1_settle 36 = .ok (.iastore, 1) := by decide +kernel
theorem dX1_settle_37 : decode cX1_settle 37 = .ok (.aload_n 0, 1) := by decide +kernel
theorem dX1_settle_38 : decode cX1_settle 38 = .ok (.getfield 17, 3) := by decide +kernel
theorem dX1_settle_41 : decode cX1_settle 41 = .ok (.iload_n 1, 1) := by decide +kernel
theorem dX1_settle_42 : decode cX1_settle 42 = .ok (.iconst (-1), 1) := by decide +kernel
theorem dX1_settle_43 : decode cX1_settle 43 = .ok (.iastore, 1) := by decide +kernel
theorem dX1_settle_44 : decode cX1_settle 44 = .ok (.iload_n 2, 1) := by decide +kernel
theorem dX1_settle_45 : decode cX1_settle 45 = .ok (.iconst 1, 1) := by decide +kernel
theorem dX1_settle_46 : decode cX1_settle 46 = .ok (.isub, 1) := by decide +kernel
theorem dX1_settle_47 : decode cX1_settle 47 = .ok (.istore 4, 2) := by decide +kernel
theorem dX1_settle_49 : decode cX1_settle 49 = .ok (.iload 4, 2) := by decide +kernel
theorem dX1_settle_51 : decode cX1_settle 51 = .ok (.iconst 3, 1) := by decide +kernel
theorem dX1_settle_52 : decode cX1_settle 52 = .ok (.iload_n 3, 1) := by decide +kernel
theorem dX1_settle_53 : decode cX1_settle 53 = .ok (.iconst 1, 1) := by decide +kernel
theorem dX1_settle_54 : decode cX1_settle 54 = .ok (.iadd, 1) := by decide +kernel
theorem dX1_settle_55 : decode cX1_settle 55 = .ok (.imul, 1) := by decide +kernel
theorem dX1_settle_56 : decode cX1_settle 56 = .ok (.if_icmp .lt 90, 3) := by decide +kernel
theorem dX1_settle_59 : decode cX1_settle 59 = .ok (.aload_n 0, 1) := by decide +kernel
theorem dX1_settle_60 : decode cX1_settle 60 = .ok (.getfield 13, 3) := by decide +kernel
theorem dX1_settle_63 : decode cX1_settle 63 = .ok (.iload 4, 2) := by decide +kernel
theorem dX1_settle_65 : decode cX1_settle 65 = .ok (.iaload, 1) := by decide +kernel
theorem dX1_settle_66 : decode cX1_settle 66 = .ok (.ldc 53, 2) := by decide +kernel
theorem dX1_settle_68 : decode cX1_settle 68 = .ok (.if_icmp .ne 6, 3) := by decide +kernel
theorem dX1_settle_71 : decode cX1_settle 71 = .ok (.goto 69, 3) := by decide +kernel
theorem dX1_settle_74 : decode cX1_settle 74 = .ok (.aload_n 0, 1) := by decide +kernel
theorem dX1_settle_75 : decode cX1_settle 75 = .ok (.getfield 20, 3) := by decide +kernel
theorem dX1_settle_78 : decode cX1_settle 78 = .ok (.getfield 54, 3) := by decide +kernel
theorem dX1_settle_81 : decode cX1_settle 81 = .ok (.iload_n 3, 1) := by decide +kernel
theorem dX1_settle_82 : decode cX1_settle 82 = .ok (.iaload, 1) := by decide +kernel
theorem dX1_settle_83 : decode cX1_settle 83 = .ok (.aload_n 0, 1) := by decide +kernel
theorem dX1_settle_84 : decode cX1_settle 84 = .ok (.getfield 13, 3) := by decide +kernel
theorem dX1_settle_87 : decode cX1_settle 87 = .ok (.iload 4, 2) := by decide +kernel
theorem dX1_settle_89 : decode cX1_settle 89 = .ok (.iaload, 1) := by decide +kernel
theorem dX1_settle_90 : decode cX1_settle 90 = .ok (.iadd, 1) := by decide +kernel
theorem dX1_settle_91 : decode cX1_settle 91 = .ok (.istore 5, 2) := by decide +kernel
theorem dX1_settle_93 : decode cX1_settle 93 = .ok (.iload 5, 2) := by decide +kernel
theorem dX1_settle_95 : decode cX1_settle 95 = .ok (.aload_n 0, 1) := by decide +kernel
theorem dX1_settle_96 : decode cX1_settle 96 = .ok (.getfield 13, 3) := by decide +kernel
theorem dX1_settle_99 : decode cX1_settle 99 = .ok (.iload_n 1, 1) := by decide +kernel
theorem dX1_settle_100 : decode cX1_settle 100 = .ok (.iaload, 1) := by decide +kernel
theorem dX1_settle_101 : decode cX1_settle 101 = .ok (.if_icmp .le 6, 3) := by decide +kernel
theorem dX1_settle_104 : decode cX1_settle 104 = .ok (.goto 36, 3) := by decide +kernel
theorem dX1_settle_107 : decode cX1_settle 107 = .ok (.aload_n 0, 1) := by decide +kernel
theorem dX1_settle_108 : decode cX1_settle 108 = .ok (.iload_n 1, 1) := by decide +kernel
theorem dX1_settle_109 : decode cX1_settle 109 = .ok (.iload 4, 2) := by decide +kernel
theorem dX1_settle_111 : decode cX1_settle 111 = .ok (.invokevirtual 32, 3) := by decide +kernel
theorem dX1_settle_114 : decode cX1_settle 114 = .ok (.aload_n 0, 1) := by decide +kernel
theorem dX1_settle_115 : decode cX1_settle 115 = .ok (.getfield 24, 3) := by decide +kernel
theorem dX1_settle_118 : decode cX1_settle 118 = .ok (.invokevirtual 36, 3) := by decide +kernel
theorem dX1_settle_121 : decode cX1_settle 121 = .ok (.ifCond .eq 19, 3) := by decide +kernel
theorem dX1_settle_124 : decode cX1_settle 124 = .ok (.aload_n 0, 1) := by decide +kernel
theorem dX1_settle_125 : decode cX1_settle 125 = .ok (.getfield 13, 3) := by decide +kernel
theorem dX1_settle_128 : decode cX1_settle 128 = .ok (.iload_n 1, 1) := by decide +kernel
theorem dX1_settle_129 : decode cX1_settle 129 = .ok (.iload 5, 2) := by decide +kernel
theorem dX1_settle_131 : decode cX1_settle 131 = .ok (.iastore, 1) := by decide +kernel
theorem dX1_settle_132 : decode cX1_settle 132 = .ok (.aload_n 0, 1) := by decide +kernel
theorem dX1_settle_133 : decode cX1_settle 133 = .ok (.getfield 17, 3) := by decide +kernel
theorem dX1_settle_136 : decode cX1_settle 136 = .ok (.iload_n 1, 1) := by decide +kernel
theorem dX1_settle_137 : decode cX1_settle 137 = .ok (.iload 4, 2) := by decide +kernel
theorem dX1_settle_139 : decode cX1_settle 139 = .ok (.iastore, 1) := by decide +kernel
theorem dX1_settle_140 : decode cX1_settle 140 = .ok (.iinc 4 (-1), 3) := by decide +kernel
theorem dX1_settle_143 : decode cX1_settle 143 = .ok (.goto (-94), 3) := by decide +kernel
theorem dX1_settle_146 : decode cX1_settle 146 = .ok (.return_, 1) := by decide +kernel
set_option maxRecDepth 20000 in
theorem ggX1_layBetween_X1_sideOf : GoodIn wsX1_layBetween wsX1_sideOf := goodIn_r _ [6, 7, 20, 21, 22, 23, 24, 25] (by decide +kernel) (by decide +kernel)
set_option maxRecDepth 20000 in
theorem gX1_layBetween_X1_sideOf : GoodIn wsX1_layBetween (wsV RX1 57 RX1 yX1_sideOf wsX1_sideOf) := goodIn_app (goodIn_of _ (by decide +kernel)) ggX1_layBetween_X1_sideOf
set_option maxRecDepth 20000 in
theorem ggX1_layBetween_X4_lay : GoodIn wsX1_layBetween wsX4_lay := goodIn_r _ [12, 13, 14, 15, 16, 17, 18, 19, 26, 27, 28, 29, 30, 31, 32, 33, 34, 35, 36, 37, 38, 39, 40] (by decide +kernel) (by decide +kernel)
set_option maxRecDepth 20000 in
theorem gX1_layBetween_X4_lay : GoodIn wsX1_layBetween (wsV RX1 61 RX4 yX4_lay wsX4_lay) := goodIn_app (goodIn_of _ (by decide +kernel)) ggX1_layBetween_X4_lay
theorem dX1_layBetween_0 : decode cX1_layBetween 0 = .ok (.aload_n 0, 1) := by decide +kernel
theorem dX1_layBetween_1 : decode cX1_layBetween 1 = .ok (.getfield 24, 3) := by decide +kernel
theorem dX1_layBetween_4 : decode cX1_layBetween 4 = .ok (.iload_n 1, 1) := by decide +kernel
theorem dX1_layBetween_5 : decode cX1_layBetween 5 = .ok (.iconst 3, 1) := by decide +kernel
theorem dX1_layBetween_6 : decode cX1_layBetween 6 = .ok (.idiv, 1) := by decide +kernel
theorem dX1_layBetween_7 : decode cX1_layBetween 7 = .ok (.aload_n 0, 1) := by decide +kernel
theorem dX1_layBetween_8 : decode cX1_layBetween 8 = .ok (.iload_n 1, 1) := by decide +kernel
theorem dX1_layBetween_9 : decode cX1_layBetween 9 = .ok (.invokevirtual 57, 3) := by decide +kernel
theorem dX1_layBetween_12 : decode cX1_layBetween 12 = .ok (.iload_n 2, 1) := by decide +kernel
theorem dX1_layBetween_13 : decode cX1_layBetween 13 = .ok (.iconst 3, 1) := by decide +kernel
theorem dX1_layBetween_14 : decode cX1_layBetween 14 = .ok (.idiv, 1) := by decide +kernel
theorem dX1_layBetween_15 : decode cX1_layBetween 15 = .ok (.aload_n 0, 1) := by decide +kernel
theorem dX1_layBetween_16 : decode cX1_layBetween 16 = .ok (.iload_n 2, 1) := by decide +kernel
theorem dX1_layBetween_17 : decode cX1_layBetween 17 = .ok (.invokevirtual 57, 3) := by decide +kernel
theorem dX1_layBetween_20 : decode cX1_layBetween 20 = .ok (.invokevirtual 61, 3) := by decide +kernel
theorem dX1_layBetween_23 : decode cX1_layBetween 23 = .ok (.return_, 1) := by decide +kernel
theorem dX1_sideOf_0 : decode cX1_sideOf 0 = .ok (.iload_n 1, 1) := by decide +kernel
theorem dX1_sideOf_1 : decode cX1_sideOf 1 = .ok (.iconst 3, 1) := by decide +kernel
theorem dX1_sideOf_2 : decode cX1_sideOf 2 = .ok (.irem, 1) := by decide +kernel
theorem dX1_sideOf_3 : decode cX1_sideOf 3 = .ok (.iconst 1, 1) := by decide +kernel
theorem dX1_sideOf_4 : decode cX1_sideOf 4 = .ok (.isub, 1) := by decide +kernel
theorem dX1_sideOf_5 : decode cX1_sideOf 5 = .ok (.aload_n 0, 1) := by decide +kernel
theorem dX1_sideOf_6 : decode cX1_sideOf 6 = .ok (.getfield 28, 3) := by decide +kernel
theorem dX1_sideOf_9 : decode cX1_sideOf 9 = .ok (.imul, 1) := by decide +kernel
theorem dX1_sideOf_10 : decode cX1_sideOf 10 = .ok (.ireturn, 1) := by decide +kernel
set_option maxRecDepth 20000 in
theorem ggX1_raiseFound_X2_takeDown : GoodIn wsX1_raiseFound wsX2_takeDown := goodIn_r _ [9, 10, 11, 35, 36, 37, 38, 39, 40, 41, 42] (by decide +kernel) (by decide +kernel)
set_option maxRecDepth 20000 in
theorem gX1_raiseFound_X2_takeDown : GoodIn wsX1_raiseFound (wsV RX1 65 RX2 yX2_takeDown wsX2_takeDown) := goodIn_app (goodIn_of _ (by decide +kernel)) ggX1_raiseFound_X2_takeDown
set_option maxRecDepth 20000 in
theorem ggX1_raiseFound_X1_sideOf : GoodIn wsX1_raiseFound wsX1_sideOf := goodIn_r _ [16, 17, 29, 30, 31, 32, 33, 34] (by decide +kernel) (by decide +kernel)
set_option maxRecDepth 20000 in
theorem gX1_raiseFound_X1_sideOf : GoodIn wsX1_raiseFound (wsV RX1 57 RX1 yX1_sideOf wsX1_sideOf) := goodIn_app (goodIn_of _ (by decide +kernel)) ggX1_raiseFound_X1_sideOf
set_option maxRecDepth 20000 in
theorem ggX1_raiseFound_X2_raise : GoodIn wsX1_raiseFound wsX2_raise := goodIn_r _ [21, 10, 11, 35, 36, 37, 38, 39, 40, 41, 42] (by decide +kernel) (by decide +kernel)
set_option maxRecDepth 20000 in
theorem gX1_raiseFound_X2_raise : GoodIn wsX1_raiseFound (wsV RX1 69 RX2 yX2_raise wsX2_raise) := goodIn_app (goodIn_of _ (by decide +kernel)) ggX1_raiseFound_X2_raise
set_option maxRecDepth 20000 in
theorem ggX1_raiseFound_X2_listMasts : GoodIn wsX1_raiseFound wsX2_listMasts := goodIn_r _ [25, 26, 27, 10, 28, 35, 36, 37, 38, 39, 40, 41, 42] (by decide +kernel) (by decide +kernel)
set_option maxRecDepth 20000 in
theorem gX1_raiseFound_X2_listMasts : GoodIn wsX1_raiseFound (wsV RX1 72 RX2 yX2_listMasts wsX2_listMasts) := goodIn_app (goodIn_of _ (by decide +kernel)) ggX1_raiseFound_X2_listMasts
theorem dX1_raiseFound_0 : decode cX1_raiseFound 0 = .ok (.iconst 0, 1) := by decide +kernel
theorem dX1_raiseFound_1 : decode cX1_raiseFound 1 = .ok (.istore_n 1, 1) := by decide +kernel
theorem dX1_raiseFound_2 : decode cX1_raiseFound 2 = .ok (.iload_n 1, 1) := by decide +kernel
theorem dX1_raiseFound_3 : decode cX1_raiseFound 3 = .ok (.aload_n 0, 1) := by decide +kernel
theorem dX1_raiseFound_4 : decode cX1_raiseFound 4 = .ok (.getfield 20, 3) := by decide +kernel
theorem dX1_raiseFound_7 : decode cX1_raiseFound 7 = .ok (.getfield 42, 3) := by decide +kernel
theorem dX1_raiseFound_10 : decode cX1_raiseFound 10 = .ok (.if_icmp .ge 17, 3) := by decide +kernel
theorem dX1_raiseFound_13 : decode cX1_raiseFound 13 = .ok (.aload_n 0, 1) := by decide +kernel
theorem dX1_raiseFound_14 : decode cX1_raiseFound 14 = .ok (.getfield 20, 3) := by decide +kernel
theorem dX1_raiseFound_17 : decode cX1_raiseFound 17 = .ok (.iload_n 1, 1) := by decide +kernel
theorem dX1_raiseFound_18 : decode cX1_raiseFound 18 = .ok (.invokevirtual 65, 3) := by decide +kernel
theorem dX1_raiseFound_21 : decode cX1_raiseFound 21 = .ok (.iinc 1 1, 3) := by decide +kernel
theorem dX1_raiseFound_24 : decode cX1_raiseFound 24 = .ok (.goto (-22), 3) := by decide +kernel
theorem dX1_raiseFound_27 : decode cX1_raiseFound 27 = .ok (.aload_n 0, 1) := by decide +kernel
theorem dX1_raiseFound_28 : decode cX1_raiseFound 28 = .ok (.getfield 50, 3) := by decide +kernel
theorem dX1_raiseFound_31 : decode cX1_raiseFound 31 = .ok (.istore_n 1, 1) := by decide +kernel
theorem dX1_raiseFound_32 : decode cX1_raiseFound 32 = .ok (.iconst 0, 1) := by decide +kernel
theorem dX1_raiseFound_33 : decode cX1_raiseFound 33 = .ok (.istore_n 2, 1) := by decide +kernel
theorem dX1_raiseFound_34 : decode cX1_raiseFound 34 = .ok (.iload_n 2, 1) := by decide +kernel
theorem dX1_raiseFound_35 : decode cX1_raiseFound 35 = .ok (.aload_n 0, 1) := by decide +kernel
theorem dX1_raiseFound_36 : decode cX1_raiseFound 36 = .ok (.getfield 20, 3) := by decide +kernel
theorem dX1_raiseFound_39 : decode cX1_raiseFound 39 = .ok (.getfield 42, 3) := by decide +kernel
theorem dX1_raiseFound_42 : decode cX1_raiseFound 42 = .ok (.if_icmp .ge 36, 3) := by decide +kernel
theorem dX1_raiseFound_45 : decode cX1_raiseFound 45 = .ok (.iload_n 1, 1) := by decide +kernel
theorem dX1_raiseFound_46 : decode cX1_raiseFound 46 = .ok (.iconst (-1), 1) := by decide +kernel
theorem dX1_raiseFound_47 : decode cX1_raiseFound 47 = .ok (.if_icmp .eq 31, 3) := by decide +kernel
theorem dX1_raiseFound_50 : decode cX1_raiseFound 50 = .ok (.aload_n 0, 1) := by decide +kernel
theorem dX1_raiseFound_51 : decode cX1_raiseFound 51 = .ok (.getfield 20, 3) := by decide +kernel
theorem dX1_raiseFound_54 : decode cX1_raiseFound 54 = .ok (.iload_n 1, 1) := by decide +kernel
theorem dX1_raiseFound_55 : decode cX1_raiseFound 55 = .ok (.iconst 3, 1) := by decide +kernel
theorem dX1_raiseFound_56 : decode cX1_raiseFound 56 = .ok (.idiv, 1) := by decide +kernel
theorem dX1_raiseFound_57 : decode cX1_raiseFound 57 = .ok (.aload_n 0, 1) := by decide +kernel
theorem dX1_raiseFound_58 : decode cX1_raiseFound 58 = .ok (.iload_n 1, 1) := by decide +kernel
theorem dX1_raiseFound_59 : decode cX1_raiseFound 59 = .ok (.invokevirtual 57, 3) := by decide +kernel
theorem dX1_raiseFound_62 : decode cX1_raiseFound 62 = .ok (.invokevirtual 69, 3) := by decide +kernel
theorem dX1_raiseFound_65 : decode cX1_raiseFound 65 = .ok (.aload_n 0, 1) := by decide +kernel
theorem dX1_raiseFound_66 : decode cX1_raiseFound 66 = .ok (.getfield 17, 3) := by decide +kernel
theorem dX1_raiseFound_69 : decode cX1_raiseFound 69 = .ok (.iload_n 1, 1) := by decide +kernel
theorem dX1_raiseFound_70 : decode cX1_raiseFound 70 = .ok (.iaload, 1) := by decide +kernel
theorem dX1_raiseFound_71 : decode cX1_raiseFound 71 = .ok (.istore_n 1, 1) := by decide +kernel
theorem dX1_raiseFound_72 : decode cX1_raiseFound 72 = .ok (.iinc 2 1, 3) := by decide +kernel
theorem dX1_raiseFound_75 : decode cX1_raiseFound 75 = .ok (.goto (-41), 3) := by decide +kernel
theorem dX1_raiseFound_78 : decode cX1_raiseFound 78 = .ok (.aload_n 0, 1) := by decide +kernel
theorem dX1_raiseFound_79 : decode cX1_raiseFound 79 = .ok (.getfield 20, 3) := by decide +kernel
theorem dX1_raiseFound_82 : decode cX1_raiseFound 82 = .ok (.invokevirtual 72, 3) := by decide +kernel
theorem dX1_raiseFound_85 : decode cX1_raiseFound 85 = .ok (.return_, 1) := by decide +kernel
theorem dX2_init_0 : decode cX2_init 0 = .ok (.aload_n 0, 1) := by decide +kernel
theorem dX2_init_1 : decode cX2_init 1 = .ok (.invokespecial 3, 3) := by decide +kernel
theorem dX2_init_4 : decode cX2_init 4 = .ok (.aload_n 0, 1) := by decide +kernel
theorem dX2_init_5 : decode cX2_init 5 = .ok (.bipush 40, 2) := by decide +kernel
theorem dX2_init_7 : decode cX2_init 7 = .ok (.newarray .int, 2) := by decide +kernel
theorem dX2_init_9 : decode cX2_init 9 = .ok (.putfield 9, 3) := by decide +kernel
theorem dX2_init_12 : decode cX2_init 12 = .ok (.aload_n 0, 1) := by decide +kernel
theorem dX2_init_13 : decode cX2_init 13 = .ok (.bipush 40, 2) := by decide +kernel
theorem dX2_init_15 : decode cX2_init 15 = .ok (.newarray .int, 2) := by decide +kernel
theorem dX2_init_17 : decode cX2_init 17 = .ok (.putfield 15, 3) := by decide +kernel
theorem dX2_init_20 : decode cX2_init 20 = .ok (.aload_n 0, 1) := by decide +kernel
theorem dX2_init_21 : decode cX2_init 21 = .ok (.bipush 40, 2) := by decide +kernel
theorem dX2_init_23 : decode cX2_init 23 = .ok (.newarray .long, 2) := by decide +kernel
theorem dX2_init_25 : decode cX2_init 25 = .ok (.putfield 18, 3) := by decide +kernel
theorem dX2_init_28 : decode cX2_init 28 = .ok (.aload_n 0, 1) := by decide +kernel
theorem dX2_init_29 : decode cX2_init 29 = .ok (.bipush 40, 2) := by decide +kernel
theorem dX2_init_31 : decode cX2_init 31 = .ok (.newarray .int, 2) := by decide +kernel
theorem dX2_init_33 : decode cX2_init 33 = .ok (.putfield 22, 3) := by decide +kernel
theorem dX2_init_36 : decode cX2_init 36 = .ok (.aload_n 0, 1) := by decide +kernel
theorem dX2_init_37 : decode cX2_init 37 = .ok (.bipush 40, 2) := by decide +kernel
theorem dX2_init_39 : decode cX2_init 39 = .ok (.newarray .boolean, 2) := by decide +kernel
theorem dX2_init_41 : decode cX2_init 41 = .ok (.putfield 25, 3) := by decide +kernel
theorem dX2_init_44 : decode cX2_init 44 = .ok (.aload_n 0, 1) := by decide +kernel
theorem dX2_init_45 : decode cX2_init 45 = .ok (.bipush 40, 2) := by decide +kernel
theorem dX2_init_47 : decode cX2_init 47 = .ok (.newarray .int, 2) := by decide +kernel
theorem dX2_init_49 : decode cX2_init 49 = .ok (.putfield 29, 3) := by decide +kernel
theorem dX2_init_52 : decode cX2_init 52 = .ok (.return_, 1) := by decide +kernel
theorem dX2_has_0 : decode cX2_has 0 = .ok (.iload_n 1, 1) := by decide +kernel
theorem dX2_has_1 : decode cX2_has 1 = .ok (.ifCond .lt 15, 3) := by decide +kernel
theorem dX2_has_4 : decode cX2_has 4 = .ok (.iload_n 1, 1) := by decide +kernel
theorem dX2_has_5 : decode cX2_has 5 = .ok (.aload_n 0, 1) := by decide +kernel
theorem dX2_has_6 : decode cX2_has 6 = .ok (.getfield 32, 3) := by decide +kernel
theorem dX2_has_9 : decode cX2_has 9 = .ok (.if_icmp .ge 7, 3) := by decide +kernel
theorem dX2_has_12 : decode cX2_has 12 = .ok (.iconst 1, 1) := by decide +kernel
theorem dX2_has_13 : decode cX2_has 13 = .ok (.goto 4, 3) := by decide +kernel
theorem dX2_has_16 : decode cX2_has 16 = .ok (.iconst 0, 1) := by decide +kernel
theorem dX2_has_17 : decode cX2_has 17 = .ok (.ireturn, 1) := by decide +kernel
theorem dX2_countBefore_0 : decode cX2_countBefore 0 = .ok (.iconst 0, 1) := by decide +kernel
theorem dX2_countBefore_1 : decode cX2_countBefore 1 = .ok (.istore_n 2, 1) := by decide +kernel
theorem dX2_countBefore_2 : decode cX2_countBefore 2 = .ok (.iload_n 2, 1) := by decide +kernel
theorem dX2_countBefore_3 : decode cX2_countBefore 3 = .ok (.aload_n 0, 1) := by decide +kernel
theorem dX2_countBefore_4 : decode cX2_countBefore 4 = .ok (.getfield 32, 3) := by decide +kernel
theorem dX2_countBefore_7 : decode cX2_countBefore 7 = .ok (.if_icmp .ge 19, 3) := by decide +kernel
theorem dX2_countBefore_10 : decode cX2_countBefore 10 = .ok (.aload_n 0, 1) := by decide +kernel
theorem dX2_countBefore_11 : decode cX2_countBefore 11 = .ok (.getfield 9, 3) := by decide +kernel
theorem dX2_countBefore_14 : decode cX2_countBefore 14 = .ok (.iload_n 2, 1) := by decide +kernel
theorem dX2_countBefore_15 : decode cX2_countBefore 15 = .ok (.iaload, 1) := by decide +kernel
theorem dX2_countBefore_16 : decode cX2_countBefore 16 = .ok (.iload_n 1, 1) := by decide +kernel
theorem dX2_countBefore_17 : decode cX2_countBefore 17 = .ok (.if_icmp .ge 9, 3) := by decide +kernel
theorem dX2_countBefore_20 : decode cX2_countBefore 20 = .ok (.iinc 2 1, 3) := by decide +kernel
theorem dX2_countBefore_23 : decode cX2_countBefore 23 = .ok (.goto (-21), 3) := by decide +kernel
theorem dX2_countBefore_26 : decode cX2_countBefore 26 = .ok (.iload_n 2, 1) := by decide +kernel
theorem dX2_countBefore_27 : decode cX2_countBefore 27 = .ok (.ireturn, 1) := by decide +kernel
set_option maxRecDepth 20000 in
theorem ggX2_insert_X2_takeDown : GoodIn wsX2_insert wsX2_takeDown := goodIn_r _ [9, 10, 11, 12, 13, 14, 15, 16, 17, 18, 19] (by decide +kernel) (by decide +kernel)
set_option maxRecDepth 20000 in
theorem gX2_insert_X2_takeDown : GoodIn wsX2_insert (wsV RX2 36 RX2 yX2_takeDown wsX2_takeDown) := goodIn_app (goodIn_of _ (by decide +kernel)) ggX2_insert_X2_takeDown
theorem dX2_insert_0 : decode cX2_insert 0 = .ok (.aload_n 0, 1) := by decide +kernel
theorem dX2_insert_1 : decode cX2_insert 1 = .ok (.getfield 32, 3) := by decide +kernel
theorem dX2_insert_4 : decode cX2_insert 4 = .ok (.bipush 40, 2) := by decide +kernel
theorem dX2_insert_6 : decode cX2_insert 6 = .ok (.if_icmp .ge 7, 3) := by decide +kernel
theorem dX2_insert_9 : decode cX2_insert 9 = .ok (.iload_n 1, 1) := by decide +kernel
theorem dX2_insert_10 : decode cX2_insert 10 = .ok (.ifCond .ge 4, 3) := by decide +kernel
theorem dX2_insert_13 : decode cX2_insert 13 = .ok (.return_, 1) := by decide +kernel
theorem dX2_insert_14 : decode cX2_insert 14 = .ok (.aload_n 0, 1) := by decide +kernel
theorem dX2_insert_15 : decode cX2_insert 15 = .ok (.getfield 32, 3) := by decide +kernel
theorem dX2_insert_18 : decode cX2_insert 18 = .ok (.istore 6, 2) := by decide +kernel
theorem dX2_insert_20 : decode cX2_insert 20 = .ok (.iload 6, 2) := by decide +kernel
theorem dX2_insert_22 : decode cX2_insert 22 = .ok (.iload_n 1, 1) := by decide +kernel
theorem dX2_insert_23 : decode cX2_insert 23 = .ok (.if_icmp .le 57, 3) := by decide +kernel
theorem dX2_insert_26 : decode cX2_insert 26 = .ok (.aload_n 0, 1) := by decide +kernel
theorem dX2_insert_27 : decode cX2_insert 27 = .ok (.getfield 9, 3) := by decide +kernel
theorem dX2_insert_30 : decode cX2_insert 30 = .ok (.iload 6, 2) := by decide +kernel
theorem dX2_insert_32 : decode cX2_insert 32 = .ok (.aload_n 0, 1) := by decide +kernel
theorem dX2_insert_33 : decode cX2_insert 33 = .ok (.getfield 9, 3) := by decide +kernel
theorem dX2_insert_36 : decode cX2_insert 36 = .ok (.iload 6, 2) := by decide +kernel
theorem dX2_insert_38 : decode cX2_insert 38 = .ok (.iconst 1, 1) := by decide +kernel
theorem dX2_insert_39 : decode cX2_insert 39 = .ok (.isub, 1) := by decide +kernel
theorem dX2_insert_40 : decode cX2_insert 40 = .ok (.iaload, 1) := by decide +kernel
theorem dX2_insert_41 : decode cX2_insert 41 = .ok (.iastore, 1) := by decide +kernel
theorem dX2_insert_42 : decode cX2_insert 42 = .ok (.aload_n 0, 1) := by decide +kernel
theorem dX2_insert_43 : decode cX2_insert 43 = .ok (.getfield 15, 3) := by decide +kernel
theorem dX2_insert_46 : decode cX2_insert 46 = .ok (.iload 6, 2) := by decide +kernel
theorem dX2_insert_48 : decode cX2_insert 48 = .ok (.aload_n 0, 1) := by decide +kernel
theorem dX2_insert_49 : decode cX2_insert 49 = .ok (.getfield 15, 3) := by decide +kernel
theorem dX2_insert_52 : decode cX2_insert 52 = .ok (.iload 6, 2) := by decide +kernel
theorem dX2_insert_54 : decode cX2_insert 54 = .ok (.iconst 1, 1) := by decide +kernel
theorem dX2_insert_55 : decode cX2_insert 55 = .ok (.isub, 1) := by decide +kernel
theorem dX2_insert_56 : decode cX2_insert 56 = .ok (.iaload, 1) := by decide +kernel
theorem dX2_insert_57 : decode cX2_insert 57 = .ok (.iastore, 1) := by decide +kernel
theorem dX2_insert_58 : decode cX2_insert 58 = .ok (.aload_n 0, 1) := by decide +kernel
theorem dX2_insert_59 : decode cX2_insert 59 = .ok (.getfield 18, 3) := by decide +kernel
theorem dX2_insert_62 : decode cX2_insert 62 = .ok (.iload 6, 2) := by decide +kernel
theorem dX2_insert_64 : decode cX2_insert 64 = .ok (.aload_n 0, 1) := by decide +kernel
theorem dX2_insert_65 : decode cX2_insert 65 = .ok (.getfield 18, 3) := by decide +kernel
theorem dX2_insert_68 : decode cX2_insert 68 = .ok (.iload 6, 2) := by decide +kernel
theorem dX2_insert_70 : decode cX2_insert 70 = .ok (.iconst 1, 1) := by decide +kernel
theorem dX2_insert_71 : decode cX2_insert 71 = .ok (.isub, 1) := by decide +kernel
theorem dX2_insert_72 : decode cX2_insert 72 = .ok (.laload, 1) := by decide +kernel
theorem dX2_insert_73 : decode cX2_insert 73 = .ok (.lastore, 1) := by decide +kernel
theorem dX2_insert_74 : decode cX2_insert 74 = .ok (.iinc 6 (-1), 3) := by decide +kernel
theorem dX2_insert_77 : decode cX2_insert 77 = .ok (.goto (-57), 3) := by decide +kernel
theorem dX2_insert_80 : decode cX2_insert 80 = .ok (.aload_n 0, 1) := by decide +kernel
theorem dX2_insert_81 : decode cX2_insert 81 = .ok (.getfield 9, 3) := by decide +kernel
theorem dX2_insert_84 : decode cX2_insert 84 = .ok (.iload_n 1, 1) := by decide +kernel
theorem dX2_insert_85 : decode cX2_insert 85 = .ok (.iload_n 2, 1) := by decide +kernel
theorem dX2_insert_86 : decode cX2_insert 86 = .ok (.iastore, 1) := by decide +kernel
theorem dX2_insert_87 : decode cX2_insert 87 = .ok (.aload_n 0, 1) := by decide +kernel
theorem dX2_insert_88 : decode cX2_insert 88 = .ok (.getfield 15, 3) := by decide +kernel
theorem dX2_insert_91 : decode cX2_insert 91 = .ok (.iload_n 1, 1) := by decide +kernel
theorem dX2_insert_92 : decode cX2_insert 92 = .ok (.iload_n 3, 1) := by decide +kernel
theorem dX2_insert_93 : decode cX2_insert 93 = .ok (.iastore, 1) := by decide +kernel
theorem dX2_insert_94 : decode cX2_insert 94 = .ok (.aload_n 0, 1) := by decide +kernel
theorem dX2_insert_95 : decode cX2_insert 95 = .ok (.getfield 18, 3) := by decide +kernel
theorem dX2_insert_98 : decode cX2_insert 98 = .ok (.iload_n 1, 1) := by decide +kernel
theorem dX2_insert_99 : decode cX2_insert 99 = .ok (.lload 4, 2) := by decide +kernel
theorem dX2_insert_101 : decode cX2_insert 101 = .ok (.lastore, 1) := by decide +kernel
theorem dX2_insert_102 : decode cX2_insert 102 = .ok (.aload_n 0, 1) := by decide +kernel
theorem dX2_insert_103 : decode cX2_insert 103 = .ok (.aload_n 0, 1) := by decide +kernel
theorem dX2_insert_104 : decode cX2_insert 104 = .ok (.getfield 32, 3) := by decide +kernel
theorem dX2_insert_107 : decode cX2_insert 107 = .ok (.invokevirtual 36, 3) := by decide +kernel
theorem dX2_insert_110 : decode cX2_insert 110 = .ok (.aload_n 0, 1) := by decide +kernel
theorem dX2_insert_111 : decode cX2_insert 111 = .ok (.dup, 1) := by decide +kernel
theorem dX2_insert_112 : decode cX2_insert 112 = .ok (.getfield 32, 3) := by decide +kernel
theorem dX2_insert_115 : decode cX2_insert 115 = .ok (.iconst 1, 1) := by decide +kernel
theorem dX2_insert_116 : decode cX2_insert 116 = .ok (.iadd, 1) := by decide +kernel
theorem dX2_insert_117 : decode cX2_insert 117 = .ok (.putfield 32, 3) := by decide +kernel
theorem dX2_insert_120 : decode cX2_insert 120 = .ok (.return_, 1) := by decide +kernel
theorem dX2_raise_0 : decode cX2_raise 0 = .ok (.aload_n 0, 1) := by decide +kernel
theorem dX2_raise_1 : decode cX2_raise 1 = .ok (.getfield 25, 3) := by decide +kernel
theorem dX2_raise_4 : decode cX2_raise 4 = .ok (.iload_n 1, 1) := by decide +kernel
theorem dX2_raise_5 : decode cX2_raise 5 = .ok (.iconst 1, 1) := by decide +kernel
theorem dX2_raise_6 : decode cX2_raise 6 = .ok (.bastore, 1) := by decide +kernel
theorem dX2_raise_7 : decode cX2_raise 7 = .ok (.aload_n 0, 1) := by decide +kernel
theorem dX2_raise_8 : decode cX2_raise 8 = .ok (.getfield 22, 3) := by decide +kernel
theorem dX2_raise_11 : decode cX2_raise 11 = .ok (.iload_n 1, 1) := by decide +kernel
theorem dX2_raise_12 : decode cX2_raise 12 = .ok (.iload_n 2, 1) := by decide +kernel
theorem dX2_raise_13 : decode cX2_raise 13 = .ok (.iastore, 1) := by decide +kernel
theorem dX2_raise_14 : decode cX2_raise 14 = .ok (.return_, 1) := by decide +kernel
theorem dX2_takeDown_0 : decode cX2_takeDown 0 = .ok (.aload_n 0, 1) := by decide +kernel
theorem dX2_takeDown_1 : decode cX2_takeDown 1 = .ok (.getfield 25, 3) := by decide +kernel
theorem dX2_takeDown_4 : decode cX2_takeDown 4 = .ok (.iload_n 1, 1) := by decide +kernel
theorem dX2_takeDown_5 : decode cX2_takeDown 5 = .ok (.iconst 0, 1) := by decide +kernel
theorem dX2_takeDown_6 : decode cX2_takeDown 6 = .ok (.bastore, 1) := by decide +kernel
theorem dX2_takeDown_7 : decode cX2_takeDown 7 = .ok (.aload_n 0, 1) := by decide +kernel
theorem dX2_takeDown_8 : decode cX2_takeDown 8 = .ok (.getfield 22, 3) := by decide +kernel
theorem dX2_takeDown_11 : decode cX2_takeDown 11 = .ok (.iload_n 1, 1) := by decide +kernel
theorem dX2_takeDown_12 : decode cX2_takeDown 12 = .ok (.iconst 0, 1) := by decide +kernel
theorem dX2_takeDown_13 : decode cX2_takeDown 13 = .ok (.iastore, 1) := by decide +kernel
theorem dX2_takeDown_14 : decode cX2_takeDown 14 = .ok (.return_, 1) := by decide +kernel
theorem dX2_listMasts_0 : decode cX2_listMasts 0 = .ok (.aload_n 0, 1) := by decide +kernel
theorem dX2_listMasts_1 : decode cX2_listMasts 1 = .ok (.iconst 0, 1) := by decide +kernel
theorem dX2_listMasts_2 : decode cX2_listMasts 2 = .ok (.putfield 40, 3) := by decide +kernel
theorem dX2_listMasts_5 : decode cX2_listMasts 5 = .ok (.iconst 0, 1) := by decide +kernel
theorem dX2_listMasts_6 : decode cX2_listMasts 6 = .ok (.istore_n 1, 1) := by decide +kernel
theorem dX2_listMasts_7 : decode cX2_listMasts 7 = .ok (.iload_n 1, 1) := by decide +kernel
theorem dX2_listMasts_8 : decode cX2_listMasts 8 = .ok (.aload_n 0, 1) := by decide +kernel
theorem dX2_listMasts_9 : decode cX2_listMasts 9 = .ok (.getfield 32, 3) := by decide +kernel
theorem dX2_listMasts_12 : decode cX2_listMasts 12 = .ok (.if_icmp .ge 38, 3) := by decide +kernel
theorem dX2_listMasts_15 : decode cX2_listMasts 15 = .ok (.aload_n 0, 1) := by decide +kernel
theorem dX2_listMasts_16 : decode cX2_listMasts 16 = .ok (.getfield 25, 3) := by decide +kernel
theorem dX2_listMasts_19 : decode cX2_listMasts 19 = .ok (.iload_n 1, 1) := by decide +kernel
theorem dX2_listMasts_20 : decode cX2_listMasts 20 = .ok (.baload, 1) := by decide +kernel
theorem dX2_listMasts_21 : decode cX2_listMasts 21 = .ok (.ifCond .eq 23, 3) := by decide +kernel
theorem dX2_listMasts_24 : decode cX2_listMasts 24 = .ok (.aload_n 0, 1) := by decide +kernel
theorem dX2_listMasts_25 : decode cX2_listMasts 25 = .ok (.getfield 29, 3) := by decide +kernel
theorem dX2_listMasts_28 : decode cX2_listMasts 28 = .ok (.aload_n 0, 1) := by decide +kernel
theorem dX2_listMasts_29 : decode cX2_listMasts 29 = .ok (.getfield 40, 3) := by decide +kernel
theorem dX2_listMasts_32 : decode cX2_listMasts 32 = .ok (.iload_n 1, 1) := by decide +kernel
theorem dX2_listMasts_33 : decode cX2_listMasts 33 = .ok (.iastore, 1) := by decide +kernel
theorem dX2_listMasts_34 : decode cX2_listMasts 34 = .ok (.aload_n 0, 1) := by decide +kernel
theorem dX2_listMasts_35 : decode cX2_listMasts 35 = .ok (.dup, 1) := by decide +kernel
theorem dX2_listMasts_36 : decode cX2_listMasts 36 = .ok (.getfield 40, 3) := by decide +kernel
theorem dX2_listMasts_39 : decode cX2_listMasts 39 = .ok (.iconst 1, 1) := by decide +kernel
theorem dX2_listMasts_40 : decode cX2_listMasts 40 = .ok (.iadd, 1) := by decide +kernel
theorem dX2_listMasts_41 : decode cX2_listMasts 41 = .ok (.putfield 40, 3) := by decide +kernel
theorem dX2_listMasts_44 : decode cX2_listMasts 44 = .ok (.iinc 1 1, 3) := by decide +kernel
theorem dX2_listMasts_47 : decode cX2_listMasts 47 = .ok (.goto (-40), 3) := by decide +kernel
theorem dX2_listMasts_50 : decode cX2_listMasts 50 = .ok (.return_, 1) := by decide +kernel
theorem dX2_spans_0 : decode cX2_spans 0 = .ok (.aload_n 0, 1) := by decide +kernel
theorem dX2_spans_1 : decode cX2_spans 1 = .ok (.getfield 40, 3) := by decide +kernel
theorem dX2_spans_4 : decode cX2_spans 4 = .ok (.iconst 1, 1) := by decide +kernel
theorem dX2_spans_5 : decode cX2_spans 5 = .ok (.if_icmp .le 12, 3) := by decide +kernel
theorem dX2_spans_8 : decode cX2_spans 8 = .ok (.aload_n 0, 1) := by decide +kernel
theorem dX2_spans_9 : decode cX2_spans 9 = .ok (.getfield 40, 3) := by decide +kernel
theorem dX2_spans_12 : decode cX2_spans 12 = .ok (.iconst 1, 1) := by decide +kernel
theorem dX2_spans_13 : decode cX2_spans 13 = .ok (.isub, 1) := by decide +kernel
theorem dX2_spans_14 : decode cX2_spans 14 = .ok (.goto 4, 3) := by decide +kernel
theorem dX2_spans_17 : decode cX2_spans 17 = .ok (.iconst 0, 1) := by decide +kernel
theorem dX2_spans_18 : decode cX2_spans 18 = .ok (.ireturn, 1) := by decide +kernel
set_option maxRecDepth 20000 in
theorem ggX2_hasSpan_X2_spans : GoodIn wsX2_hasSpan wsX2_spans := goodIn_r _ [5, 6, 7, 8, 9, 10, 11, 12, 13, 14] (by decide +kernel) (by decide +kernel)
set_option maxRecDepth 20000 in
theorem gX2_hasSpan_X2_spans : GoodIn wsX2_hasSpan (wsV RX2 43 RX2 yX2_spans wsX2_spans) := goodIn_app (goodIn_of _ (by decide +kernel)) ggX2_hasSpan_X2_spans
theorem dX2_hasSpan_0 : decode cX2_hasSpan 0 = .ok (.iload_n 1, 1) := by decide +kernel
theorem dX2_hasSpan_1 : decode cX2_hasSpan 1 = .ok (.ifCond .lt 15, 3) := by decide +kernel
theorem dX2_hasSpan_4 : decode cX2_hasSpan 4 = .ok (.iload_n 1, 1) := by decide +kernel
theorem dX2_hasSpan_5 : decode cX2_hasSpan 5 = .ok (.aload_n 0, 1) := by decide +kernel
theorem dX2_hasSpan_6 : decode cX2_hasSpan 6 = .ok (.invokevirtual 43, 3) := by decide +kernel
theorem dX2_hasSpan_9 : decode cX2_hasSpan 9 = .ok (.if_icmp .ge 7, 3) := by decide +kernel
theorem dX2_hasSpan_12 : decode cX2_hasSpan 12 = .ok (.iconst 1, 1) := by decide +kernel
theorem dX2_hasSpan_13 : decode cX2_hasSpan 13 = .ok (.goto 4, 3) := by decide +kernel
theorem dX2_hasSpan_16 : decode cX2_hasSpan 16 = .ok (.iconst 0, 1) := by decide +kernel
theorem dX2_hasSpan_17 : decode cX2_hasSpan 17 = .ok (.ireturn, 1) := by decide +kernel
theorem dX2_spanBegin_0 : decode cX2_spanBegin 0 = .ok (.aload_n 0, 1) := by decide +kernel
theorem dX2_spanBegin_1 : decode cX2_spanBegin 1 = .ok (.getfield 9, 3) := by decide +kernel
theorem dX2_spanBegin_4 : decode cX2_spanBegin 4 = .ok (.aload_n 0, 1) := by decide +kernel
theorem dX2_spanBegin_5 : decode cX2_spanBegin 5 = .ok (.getfield 29, 3) := by decide +kernel
theorem dX2_spanBegin_8 : decode cX2_spanBegin 8 = .ok (.iload_n 1, 1) := by decide +kernel
theorem dX2_spanBegin_9 : decode cX2_spanBegin 9 = .ok (.iaload, 1) := by decide +kernel
theorem dX2_spanBegin_10 : decode cX2_spanBegin 10 = .ok (.iaload, 1) := by decide +kernel
theorem dX2_spanBegin_11 : decode cX2_spanBegin 11 = .ok (.ireturn, 1) := by decide +kernel
theorem dX2_spanEnd_0 : decode cX2_spanEnd 0 = .ok (.aload_n 0, 1) := by decide +kernel
theorem dX2_spanEnd_1 : decode cX2_spanEnd 1 = .ok (.getfield 9, 3) := by decide +kernel
theorem dX2_spanEnd_4 : decode cX2_spanEnd 4 = .ok (.aload_n 0, 1) := by decide +kernel
theorem dX2_spanEnd_5 : decode cX2_spanEnd 5 = .ok (.getfield 29, 3) := by decide +kernel
theorem dX2_spanEnd_8 : decode cX2_spanEnd 8 = .ok (.iload_n 1, 1) := by decide +kernel
theorem dX2_spanEnd_9 : decode cX2_spanEnd 9 = .ok (.iconst 1, 1) := by decide +kernel
theorem dX2_spanEnd_10 : decode cX2_spanEnd 10 = .ok (.iadd, 1) := by decide +kernel
theorem dX2_spanEnd_11 : decode cX2_spanEnd 11 = .ok (.iaload, 1) := by decide +kernel
theorem dX2_spanEnd_12 : decode cX2_spanEnd 12 = .ok (.iaload, 1) := by decide +kernel
theorem dX2_spanEnd_13 : decode cX2_spanEnd 13 = .ok (.ireturn, 1) := by decide +kernel
set_option maxRecDepth 20000 in
theorem ggX2_spanLength_X2_spanEnd : GoodIn wsX2_spanLength wsX2_spanEnd := goodIn_r _ [5, 6, 7, 12, 13, 14, 15, 16, 17, 18, 19] (by decide +kernel) (by decide +kernel)
set_option maxRecDepth 20000 in
theorem gX2_spanLength_X2_spanEnd : GoodIn wsX2_spanLength (wsV RX2 47 RX2 yX2_spanEnd wsX2_spanEnd) := goodIn_app (goodIn_of _ (by decide +kernel)) ggX2_spanLength_X2_spanEnd
set_option maxRecDepth 20000 in
theorem ggX2_spanLength_X2_spanBegin : GoodIn wsX2_spanLength wsX2_spanBegin := goodIn_r _ [11, 6, 7, 12, 13, 14, 15, 16, 17, 18, 19] (by decide +kernel) (by decide +kernel)
set_option maxRecDepth 20000 in
theorem gX2_spanLength_X2_spanBegin : GoodIn wsX2_spanLength (wsV RX2 51 RX2 yX2_spanBegin wsX2_spanBegin) := goodIn_app (goodIn_of _ (by decide +kernel)) ggX2_spanLength_X2_spanBegin
theorem dX2_spanLength_0 : decode cX2_spanLength 0 = .ok (.aload_n 0, 1) := by decide +kernel
theorem dX2_spanLength_1 : decode cX2_spanLength 1 = .ok (.iload_n 1, 1) := by decide +kernel
theorem dX2_spanLength_2 : decode cX2_spanLength 2 = .ok (.invokevirtual 47, 3) := by decide +kernel
theorem dX2_spanLength_5 : decode cX2_spanLength 5 = .ok (.aload_n 0, 1) := by decide +kernel
theorem dX2_spanLength_6 : decode cX2_spanLength 6 = .ok (.iload_n 1, 1) := by decide +kernel
theorem dX2_spanLength_7 : decode cX2_spanLength 7 = .ok (.invokevirtual 51, 3) := by decide +kernel
theorem dX2_spanLength_10 : decode cX2_spanLength 10 = .ok (.isub, 1) := by decide +kernel
theorem dX2_spanLength_11 : decode cX2_spanLength 11 = .ok (.ireturn, 1) := by decide +kernel
set_option maxRecDepth 20000 in
theorem ggX2_lengthOfSpans_X2_spans : GoodIn wsX2_lengthOfSpans wsX2_spans := goodIn_r _ [5, 6, 17, 18, 19, 20, 21, 22, 23, 24] (by decide +kernel) (by decide +kernel)
set_option maxRecDepth 20000 in
theorem gX2_lengthOfSpans_X2_spans : GoodIn wsX2_lengthOfSpans (wsV RX2 43 RX2 yX2_spans wsX2_spans) := goodIn_app (goodIn_of _ (by decide +kernel)) ggX2_lengthOfSpans_X2_spans
set_option maxRecDepth 20000 in
theorem ggX2_lengthOfSpans_X2_spanEnd : GoodIn wsX2_lengthOfSpans wsX2_spanEnd := goodIn_r _ [10, 11, 12, 17, 18, 19, 20, 21, 22, 23, 24] (by decide +kernel) (by decide +kernel)
set_option maxRecDepth 20000 in
theorem gX2_lengthOfSpans_X2_spanEnd : GoodIn wsX2_lengthOfSpans (wsV RX2 47 RX2 yX2_spanEnd wsX2_spanEnd) := goodIn_app (goodIn_of _ (by decide +kernel)) ggX2_lengthOfSpans_X2_spanEnd
set_option maxRecDepth 20000 in
theorem ggX2_lengthOfSpans_X2_spanBegin : GoodIn wsX2_lengthOfSpans wsX2_spanBegin := goodIn_r _ [16, 11, 12, 17, 18, 19, 20, 21, 22, 23, 24] (by decide +kernel) (by decide +kernel)
set_option maxRecDepth 20000 in
theorem gX2_lengthOfSpans_X2_spanBegin : GoodIn wsX2_lengthOfSpans (wsV RX2 51 RX2 yX2_spanBegin wsX2_spanBegin) := goodIn_app (goodIn_of _ (by decide +kernel)) ggX2_lengthOfSpans_X2_spanBegin
theorem dX2_lengthOfSpans_0 : decode cX2_lengthOfSpans 0 = .ok (.aload_n 0, 1) := by decide +kernel
theorem dX2_lengthOfSpans_1 : decode cX2_lengthOfSpans 1 = .ok (.invokevirtual 43, 3) := by decide +kernel
theorem dX2_lengthOfSpans_4 : decode cX2_lengthOfSpans 4 = .ok (.ifCond .le 22, 3) := by decide +kernel
theorem dX2_lengthOfSpans_7 : decode cX2_lengthOfSpans 7 = .ok (.aload_n 0, 1) := by decide +kernel
theorem dX2_lengthOfSpans_8 : decode cX2_lengthOfSpans 8 = .ok (.aload_n 0, 1) := by decide +kernel
theorem dX2_lengthOfSpans_9 : decode cX2_lengthOfSpans 9 = .ok (.invokevirtual 43, 3) := by decide +kernel
theorem dX2_lengthOfSpans_12 : decode cX2_lengthOfSpans 12 = .ok (.iconst 1, 1) := by decide +kernel
theorem dX2_lengthOfSpans_13 : decode cX2_lengthOfSpans 13 = .ok (.isub, 1) := by decide +kernel
theorem dX2_lengthOfSpans_14 : decode cX2_lengthOfSpans 14 = .ok (.invokevirtual 47, 3) := by decide +kernel
theorem dX2_lengthOfSpans_17 : decode cX2_lengthOfSpans 17 = .ok (.aload_n 0, 1) := by decide +kernel
theorem dX2_lengthOfSpans_18 : decode cX2_lengthOfSpans 18 = .ok (.iconst 0, 1) := by decide +kernel
theorem dX2_lengthOfSpans_19 : decode cX2_lengthOfSpans 19 = .ok (.invokevirtual 51, 3) := by decide +kernel
theorem dX2_lengthOfSpans_22 : decode cX2_lengthOfSpans 22 = .ok (.isub, 1) := by decide +kernel
theorem dX2_lengthOfSpans_23 : decode cX2_lengthOfSpans 23 = .ok (.goto 4, 3) := by decide +kernel
theorem dX2_lengthOfSpans_26 : decode cX2_lengthOfSpans 26 = .ok (.iconst 0, 1) := by decide +kernel
theorem dX2_lengthOfSpans_27 : decode cX2_lengthOfSpans 27 = .ok (.ireturn, 1) := by decide +kernel
theorem dX2_priceOfMasts_0 : decode cX2_priceOfMasts 0 = .ok (.iconst 0, 1) := by decide +kernel
theorem dX2_priceOfMasts_1 : decode cX2_priceOfMasts 1 = .ok (.istore_n 1, 1) := by decide +kernel
theorem dX2_priceOfMasts_2 : decode cX2_priceOfMasts 2 = .ok (.iconst 0, 1) := by decide +kernel
theorem dX2_priceOfMasts_3 : decode cX2_priceOfMasts 3 = .ok (.istore_n 2, 1) := by decide +kernel
theorem dX2_priceOfMasts_4 : decode cX2_priceOfMasts 4 = .ok (.iload_n 2, 1) := by decide +kernel
theorem dX2_priceOfMasts_5 : decode cX2_priceOfMasts 5 = .ok (.aload_n 0, 1) := by decide +kernel
theorem dX2_priceOfMasts_6 : decode cX2_priceOfMasts 6 = .ok (.getfield 40, 3) := by decide +kernel
theorem dX2_priceOfMasts_9 : decode cX2_priceOfMasts 9 = .ok (.if_icmp .ge 23, 3) := by decide +kernel
theorem dX2_priceOfMasts_12 : decode cX2_priceOfMasts 12 = .ok (.iload_n 1, 1) := by decide +kernel
theorem dX2_priceOfMasts_13 : decode cX2_priceOfMasts 13 = .ok (.aload_n 0, 1) := by decide +kernel
theorem dX2_priceOfMasts_14 : decode cX2_priceOfMasts 14 = .ok (.getfield 15, 3) := by decide +kernel
theorem dX2_priceOfMasts_17 : decode cX2_priceOfMasts 17 = .ok (.aload_n 0, 1) := by decide +kernel
theorem dX2_priceOfMasts_18 : decode cX2_priceOfMasts 18 = .ok (.getfield 29, 3) := by decide +kernel
theorem dX2_priceOfMasts_21 : decode cX2_priceOfMasts 21 = .ok (.iload_n 2, 1) := by decide +kernel
theorem dX2_priceOfMasts_22 : decode cX2_priceOfMasts 22 = .ok (.iaload, 1) := by decide +kernel
theorem dX2_priceOfMasts_23 : decode cX2_priceOfMasts 23 = .ok (.iaload, 1) := by decide +kernel
theorem dX2_priceOfMasts_24 : decode cX2_priceOfMasts 24 = .ok (.iadd, 1) := by decide +kernel
theorem dX2_priceOfMasts_25 : decode cX2_priceOfMasts 25 = .ok (.istore_n 1, 1) := by decide +kernel
theorem dX2_priceOfMasts_26 : decode cX2_priceOfMasts 26 = .ok (.iinc 2 1, 3) := by decide +kernel
theorem dX2_priceOfMasts_29 : decode cX2_priceOfMasts 29 = .ok (.goto (-25), 3) := by decide +kernel
theorem dX2_priceOfMasts_32 : decode cX2_priceOfMasts 32 = .ok (.iload_n 1, 1) := by decide +kernel
theorem dX2_priceOfMasts_33 : decode cX2_priceOfMasts 33 = .ok (.ireturn, 1) := by decide +kernel
theorem dX3_init_0 : decode cX3_init 0 = .ok (.aload_n 0, 1) := by decide +kernel
theorem dX3_init_1 : decode cX3_init 1 = .ok (.invokespecial 3, 3) := by decide +kernel
theorem dX3_init_4 : decode cX3_init 4 = .ok (.aload_n 0, 1) := by decide +kernel
theorem dX3_init_5 : decode cX3_init 5 = .ok (.bipush 14, 2) := by decide +kernel
theorem dX3_init_7 : decode cX3_init 7 = .ok (.newarray .int, 2) := by decide +kernel
theorem dX3_init_9 : decode cX3_init 9 = .ok (.putfield 9, 3) := by decide +kernel
theorem dX3_init_12 : decode cX3_init 12 = .ok (.aload_n 0, 1) := by decide +kernel
theorem dX3_init_13 : decode cX3_init 13 = .ok (.iconst 1, 1) := by decide +kernel
theorem dX3_init_14 : decode cX3_init 14 = .ok (.newarray .int, 2) := by decide +kernel
theorem dX3_init_16 : decode cX3_init 16 = .ok (.putfield 15, 3) := by decide +kernel
theorem dX3_init_19 : decode cX3_init 19 = .ok (.return_, 1) := by decide +kernel
theorem dX3_take_0 : decode cX3_take 0 = .ok (.aload_n 0, 1) := by decide +kernel
theorem dX3_take_1 : decode cX3_take 1 = .ok (.getfield 18, 3) := by decide +kernel
theorem dX3_take_4 : decode cX3_take 4 = .ok (.ifCond .lt 32, 3) := by decide +kernel
theorem dX3_take_7 : decode cX3_take 7 = .ok (.aload_n 0, 1) := by decide +kernel
theorem dX3_take_8 : decode cX3_take 8 = .ok (.getfield 18, 3) := by decide +kernel
theorem dX3_take_11 : decode cX3_take 11 = .ok (.bipush 14, 2) := by decide +kernel
theorem dX3_take_13 : decode cX3_take 13 = .ok (.if_icmp .ge 23, 3) := by decide +kernel
theorem dX3_take_16 : decode cX3_take 16 = .ok (.aload_n 0, 1) := by decide +kernel
theorem dX3_take_17 : decode cX3_take 17 = .ok (.getfield 9, 3) := by decide +kernel
theorem dX3_take_20 : decode cX3_take 20 = .ok (.aload_n 0, 1) := by decide +kernel
theorem dX3_take_21 : decode cX3_take 21 = .ok (.getfield 18, 3) := by decide +kernel
theorem dX3_take_24 : decode cX3_take 24 = .ok (.iload_n 1, 1) := by decide +kernel
theorem dX3_take_25 : decode cX3_take 25 = .ok (.iastore, 1) := by decide +kernel
theorem dX3_take_26 : decode cX3_take 26 = .ok (.aload_n 0, 1) := by decide +kernel
theorem dX3_take_27 : decode cX3_take 27 = .ok (.dup, 1) := by decide +kernel
theorem dX3_take_28 : decode cX3_take 28 = .ok (.getfield 18, 3) := by decide +kernel
theorem dX3_take_31 : decode cX3_take 31 = .ok (.iconst 1, 1) := by decide +kernel
theorem dX3_take_32 : decode cX3_take 32 = .ok (.iadd, 1) := by decide +kernel
theorem dX3_take_33 : decode cX3_take 33 = .ok (.putfield 18, 3) := by decide +kernel
theorem dX3_take_36 : decode cX3_take 36 = .ok (.return_, 1) := by decide +kernel
set_option maxRecDepth 20000 in
theorem ggX3_fewestBars_X3_leastOf : GoodIn wsX3_fewestBars wsX3_leastOf := goodIn_r _ [9, 10, 1, 2, 11, 12, 13, 14, 15, 16, 17, 8, 18, 4, 19, 20, 21] (by decide +kernel) (by decide +kernel)
set_option maxRecDepth 20000 in
theorem gX3_fewestBars_X3_leastOf : GoodIn wsX3_fewestBars (wsV RX3 23 RX3 yX3_leastOf wsX3_leastOf) := goodIn_app (goodIn_of _ (by decide +kernel)) ggX3_fewestBars_X3_leastOf
theorem dX3_fewestBars_0 : decode cX3_fewestBars 0 = .ok (.iconst 1, 1) := by decide +kernel
theorem dX3_fewestBars_1 : decode cX3_fewestBars 1 = .ok (.aload_n 0, 1) := by decide +kernel
theorem dX3_fewestBars_2 : decode cX3_fewestBars 2 = .ok (.getfield 18, 3) := by decide +kernel
theorem dX3_fewestBars_5 : decode cX3_fewestBars 5 = .ok (.ishl, 1) := by decide +kernel
theorem dX3_fewestBars_6 : decode cX3_fewestBars 6 = .ok (.istore_n 2, 1) := by decide +kernel
theorem dX3_fewestBars_7 : decode cX3_fewestBars 7 = .ok (.aload_n 0, 1) := by decide +kernel
theorem dX3_fewestBars_8 : decode cX3_fewestBars 8 = .ok (.getfield 15, 3) := by decide +kernel
theorem dX3_fewestBars_11 : decode cX3_fewestBars 11 = .ok (.arraylength, 1) := by decide +kernel
theorem dX3_fewestBars_12 : decode cX3_fewestBars 12 = .ok (.iload_n 2, 1) := by decide +kernel
theorem dX3_fewestBars_13 : decode cX3_fewestBars 13 = .ok (.if_icmp .ge 10, 3) := by decide +kernel
theorem dX3_fewestBars_16 : decode cX3_fewestBars 16 = .ok (.aload_n 0, 1) := by decide +kernel
theorem dX3_fewestBars_17 : decode cX3_fewestBars 17 = .ok (.iload_n 2, 1) := by decide +kernel
theorem dX3_fewestBars_18 : decode cX3_fewestBars 18 = .ok (.newarray .int, 2) := by decide +kernel
theorem dX3_fewestBars_20 : decode cX3_fewestBars 20 = .ok (.putfield 15, 3) := by decide +kernel
theorem dX3_fewestBars_23 : decode cX3_fewestBars 23 = .ok (.aload_n 0, 1) := by decide +kernel
theorem dX3_fewestBars_24 : decode cX3_fewestBars 24 = .ok (.getfield 15, 3) := by decide +kernel
theorem dX3_fewestBars_27 : decode cX3_fewestBars 27 = .ok (.iconst 0, 1) := by decide +kernel
theorem dX3_fewestBars_28 : decode cX3_fewestBars 28 = .ok (.ldc 22, 2) := by decide +kernel
theorem dX3_fewestBars_30 : decode cX3_fewestBars 30 = .ok (.iastore, 1) := by decide +kernel
theorem dX3_fewestBars_31 : decode cX3_fewestBars 31 = .ok (.iconst 1, 1) := by decide +kernel
theorem dX3_fewestBars_32 : decode cX3_fewestBars 32 = .ok (.istore_n 3, 1) := by decide +kernel
theorem dX3_fewestBars_33 : decode cX3_fewestBars 33 = .ok (.iload_n 3, 1) := by decide +kernel
theorem dX3_fewestBars_34 : decode cX3_fewestBars 34 = .ok (.iload_n 2, 1) := by decide +kernel
theorem dX3_fewestBars_35 : decode cX3_fewestBars 35 = .ok (.if_icmp .ge 21, 3) := by decide +kernel
theorem dX3_fewestBars_38 : decode cX3_fewestBars 38 = .ok (.aload_n 0, 1) := by decide +kernel
theorem dX3_fewestBars_39 : decode cX3_fewestBars 39 = .ok (.getfield 15, 3) := by decide +kernel
theorem dX3_fewestBars_42 : decode cX3_fewestBars 42 = .ok (.iload_n 3, 1) := by decide +kernel
theorem dX3_fewestBars_43 : decode cX3_fewestBars 43 = .ok (.aload_n 0, 1) := by decide +kernel
theorem dX3_fewestBars_44 : decode cX3_fewestBars 44 = .ok (.iload_n 3, 1) := by decide +kernel
theorem dX3_fewestBars_45 : decode cX3_fewestBars 45 = .ok (.iload_n 1, 1) := by decide +kernel
theorem dX3_fewestBars_46 : decode cX3_fewestBars 46 = .ok (.invokevirtual 23, 3) := by decide +kernel
theorem dX3_fewestBars_49 : decode cX3_fewestBars 49 = .ok (.iastore, 1) := by decide +kernel
theorem dX3_fewestBars_50 : decode cX3_fewestBars 50 = .ok (.iinc 3 1, 3) := by decide +kernel
theorem dX3_fewestBars_53 : decode cX3_fewestBars 53 = .ok (.goto (-20), 3) := by decide +kernel
theorem dX3_fewestBars_56 : decode cX3_fewestBars 56 = .ok (.aload_n 0, 1) := by decide +kernel
theorem dX3_fewestBars_57 : decode cX3_fewestBars 57 = .ok (.getfield 15, 3) := by decide +kernel
theorem dX3_fewestBars_60 : decode cX3_fewestBars 60 = .ok (.iload_n 2, 1) := by decide +kernel
theorem dX3_fewestBars_61 : decode cX3_fewestBars 61 = .ok (.iconst 1, 1) := by decide +kernel
theorem dX3_fewestBars_62 : decode cX3_fewestBars 62 = .ok (.isub, 1) := by decide +kernel
theorem dX3_fewestBars_63 : decode cX3_fewestBars 63 = .ok (.iaload, 1) := by decide +kernel
theorem dX3_fewestBars_64 : decode cX3_fewestBars 64 = .ok (.ldc 22, 2) := by decide +kernel
theorem dX3_fewestBars_66 : decode cX3_fewestBars 66 = .ok (.idiv, 1) := by decide +kernel
theorem dX3_fewestBars_67 : decode cX3_fewestBars 67 = .ok (.ireturn, 1) := by decide +kernel
set_option maxRecDepth 20000 in
theorem ggX3_leastOf_X3_withPiece : GoodIn wsX3_leastOf wsX3_withPiece := goodIn_r _ [12, 13] (by decide +kernel) (by decide +kernel)
set_option maxRecDepth 20000 in
theorem gX3_leastOf_X3_withPiece : GoodIn wsX3_leastOf (va_wsS RX3 30 yX3_withPiece wsX3_withPiece) := goodIn_app (goodIn_of _ (by decide +kernel)) ggX3_leastOf_X3_withPiece
theorem dX3_leastOf_0 : decode cX3_leastOf 0 = .ok (.ldc 29, 2) := by decide +kernel
theorem dX3_leastOf_2 : decode cX3_leastOf 2 = .ok (.istore_n 3, 1) := by decide +kernel
theorem dX3_leastOf_3 : decode cX3_leastOf 3 = .ok (.iconst 0, 1) := by decide +kernel
theorem dX3_leastOf_4 : decode cX3_leastOf 4 = .ok (.istore 4, 2) := by decide +kernel
theorem dX3_leastOf_6 : decode cX3_leastOf 6 = .ok (.iload 4, 2) := by decide +kernel
theorem dX3_leastOf_8 : decode cX3_leastOf 8 = .ok (.aload_n 0, 1) := by decide +kernel
theorem dX3_leastOf_9 : decode cX3_leastOf 9 = .ok (.getfield 18, 3) := by decide +kernel
theorem dX3_leastOf_12 : decode cX3_leastOf 12 = .ok (.if_icmp .ge 45, 3) := by decide +kernel
theorem dX3_leastOf_15 : decode cX3_leastOf 15 = .ok (.iload_n 1, 1) := by decide +kernel
theorem dX3_leastOf_16 : decode cX3_leastOf 16 = .ok (.iconst 1, 1) := by decide +kernel
theorem dX3_leastOf_17 : decode cX3_leastOf 17 = .ok (.iload 4, 2) := by decide +kernel
theorem dX3_leastOf_19 : decode cX3_leastOf 19 = .ok (.ishl, 1) := by decide +kernel
theorem dX3_leastOf_20 : decode cX3_leastOf 20 = .ok (.iand, 1) := by decide +kernel
theorem dX3_leastOf_21 : decode cX3_leastOf 21 = .ok (.ifCond .eq 30, 3) := by decide +kernel
theorem dX3_leastOf_24 : decode cX3_leastOf 24 = .ok (.iload_n 3, 1) := by decide +kernel
theorem dX3_leastOf_25 : decode cX3_leastOf 25 = .ok (.aload_n 0, 1) := by decide +kernel
theorem dX3_leastOf_26 : decode cX3_leastOf 26 = .ok (.getfield 15, 3) := by decide +kernel
theorem dX3_leastOf_29 : decode cX3_leastOf 29 = .ok (.iload_n 1, 1) := by decide +kernel
theorem dX3_leastOf_30 : decode cX3_leastOf 30 = .ok (.iconst 1, 1) := by decide +kernel
theorem dX3_leastOf_31 : decode cX3_leastOf 31 = .ok (.iload 4, 2) := by decide +kernel
theorem dX3_leastOf_33 : decode cX3_leastOf 33 = .ok (.ishl, 1) := by decide +kernel
theorem dX3_leastOf_34 : decode cX3_leastOf 34 = .ok (.ixor, 1) := by decide +kernel
theorem dX3_leastOf_35 : decode cX3_leastOf 35 = .ok (.iaload, 1) := by decide +kernel
theorem dX3_leastOf_36 : decode cX3_leastOf 36 = .ok (.aload_n 0, 1) := by decide +kernel
theorem dX3_leastOf_37 : decode cX3_leastOf 37 = .ok (.getfield 9, 3) := by decide +kernel
theorem dX3_leastOf_40 : decode cX3_leastOf 40 = .ok (.iload 4, 2) := by decide +kernel
theorem dX3_leastOf_42 : decode cX3_leastOf 42 = .ok (.iaload, 1) := by decide +kernel
theorem dX3_leastOf_43 : decode cX3_leastOf 43 = .ok (.iload_n 2, 1) := by decide +kernel
theorem dX3_leastOf_44 : decode cX3_leastOf 44 = .ok (.invokestatic 30, 3) := by decide +kernel
theorem dX3_leastOf_47 : decode cX3_leastOf 47 = .ok (.invokestatic 34, 3) := by decide +kernel
theorem dX3_leastOf_50 : decode cX3_leastOf 50 = .ok (.istore_n 3, 1) := by decide +kernel
theorem dX3_leastOf_51 : decode cX3_leastOf 51 = .ok (.iinc 4 1, 3) := by decide +kernel
theorem dX3_leastOf_54 : decode cX3_leastOf 54 = .ok (.goto (-48), 3) := by decide +kernel
theorem dX3_leastOf_57 : decode cX3_leastOf 57 = .ok (.iload_n 3, 1) := by decide +kernel
theorem dX3_leastOf_58 : decode cX3_leastOf 58 = .ok (.ireturn, 1) := by decide +kernel
theorem dX3_withPiece_0 : decode cX3_withPiece 0 = .ok (.iload_n 0, 1) := by decide +kernel
theorem dX3_withPiece_1 : decode cX3_withPiece 1 = .ok (.ldc 22, 2) := by decide +kernel
theorem dX3_withPiece_3 : decode cX3_withPiece 3 = .ok (.irem, 1) := by decide +kernel
theorem dX3_withPiece_4 : decode cX3_withPiece 4 = .ok (.iload_n 1, 1) := by decide +kernel
theorem dX3_withPiece_5 : decode cX3_withPiece 5 = .ok (.iadd, 1) := by decide +kernel
theorem dX3_withPiece_6 : decode cX3_withPiece 6 = .ok (.iload_n 2, 1) := by decide +kernel
theorem dX3_withPiece_7 : decode cX3_withPiece 7 = .ok (.if_icmp .gt 7, 3) := by decide +kernel
theorem dX3_withPiece_10 : decode cX3_withPiece 10 = .ok (.iload_n 0, 1) := by decide +kernel
theorem dX3_withPiece_11 : decode cX3_withPiece 11 = .ok (.iload_n 1, 1) := by decide +kernel
theorem dX3_withPiece_12 : decode cX3_withPiece 12 = .ok (.iadd, 1) := by decide +kernel
theorem dX3_withPiece_13 : decode cX3_withPiece 13 = .ok (.ireturn, 1) := by decide +kernel
theorem dX3_withPiece_14 : decode cX3_withPiece 14 = .ok (.iload_n 0, 1) := by decide +kernel
theorem dX3_withPiece_15 : decode cX3_withPiece 15 = .ok (.ldc 22, 2) := by decide +kernel
theorem dX3_withPiece_17 : decode cX3_withPiece 17 = .ok (.idiv, 1) := by decide +kernel
theorem dX3_withPiece_18 : decode cX3_withPiece 18 = .ok (.iconst 1, 1) := by decide +kernel
theorem dX3_withPiece_19 : decode cX3_withPiece 19 = .ok (.iadd, 1) := by decide +kernel
theorem dX3_withPiece_20 : decode cX3_withPiece 20 = .ok (.ldc 22, 2) := by decide +kernel
theorem dX3_withPiece_22 : decode cX3_withPiece 22 = .ok (.imul, 1) := by decide +kernel
theorem dX3_withPiece_23 : decode cX3_withPiece 23 = .ok (.iload_n 1, 1) := by decide +kernel
theorem dX3_withPiece_24 : decode cX3_withPiece 24 = .ok (.iadd, 1) := by decide +kernel
theorem dX3_withPiece_25 : decode cX3_withPiece 25 = .ok (.ireturn, 1) := by decide +kernel
theorem dX4_init_0 : decode cX4_init 0 = .ok (.aload_n 0, 1) := by decide +kernel
theorem dX4_init_1 : decode cX4_init 1 = .ok (.invokespecial 3, 3) := by decide +kernel
theorem dX4_init_4 : decode cX4_init 4 = .ok (.aload_n 0, 1) := by decide +kernel
theorem dX4_init_5 : decode cX4_init 5 = .ok (.aload_n 1, 1) := by decide +kernel
theorem dX4_init_6 : decode cX4_init 6 = .ok (.putfield 9, 3) := by decide +kernel
theorem dX4_init_9 : decode cX4_init 9 = .ok (.aload_n 0, 1) := by decide +kernel
theorem dX4_init_10 : decode cX4_init 10 = .ok (.aload_n 2, 1) := by decide +kernel
theorem dX4_init_11 : decode cX4_init 11 = .ok (.putfield 15, 3) := by decide +kernel
theorem dX4_init_14 : decode cX4_init 14 = .ok (.aload_n 0, 1) := by decide +kernel
theorem dX4_init_15 : decode cX4_init 15 = .ok (.aload_n 3, 1) := by decide +kernel
theorem dX4_init_16 : decode cX4_init 16 = .ok (.putfield 19, 3) := by decide +kernel
theorem dX4_init_19 : decode cX4_init 19 = .ok (.return_, 1) := by decide +kernel
theorem dX4_lay_0 : decode cX4_lay 0 = .ok (.aload_n 0, 1) := by decide +kernel
theorem dX4_lay_1 : decode cX4_lay 1 = .ok (.aload_n 0, 1) := by decide +kernel
theorem dX4_lay_2 : decode cX4_lay 2 = .ok (.getfield 15, 3) := by decide +kernel
theorem dX4_lay_5 : decode cX4_lay 5 = .ok (.getfield 23, 3) := by decide +kernel
theorem dX4_lay_8 : decode cX4_lay 8 = .ok (.iload_n 1, 1) := by decide +kernel
theorem dX4_lay_9 : decode cX4_lay 9 = .ok (.iaload, 1) := by decide +kernel
theorem dX4_lay_10 : decode cX4_lay 10 = .ok (.putfield 29, 3) := by decide +kernel
theorem dX4_lay_13 : decode cX4_lay 13 = .ok (.aload_n 0, 1) := by decide +kernel
theorem dX4_lay_14 : decode cX4_lay 14 = .ok (.aload_n 0, 1) := by decide +kernel
theorem dX4_lay_15 : decode cX4_lay 15 = .ok (.getfield 15, 3) := by decide +kernel
theorem dX4_lay_18 : decode cX4_lay 18 = .ok (.getfield 23, 3) := by decide +kernel
theorem dX4_lay_21 : decode cX4_lay 21 = .ok (.iload_n 3, 1) := by decide +kernel
theorem dX4_lay_22 : decode cX4_lay 22 = .ok (.iaload, 1) := by decide +kernel
theorem dX4_lay_23 : decode cX4_lay 23 = .ok (.putfield 33, 3) := by decide +kernel
theorem dX4_lay_26 : decode cX4_lay 26 = .ok (.aload_n 0, 1) := by decide +kernel
theorem dX4_lay_27 : decode cX4_lay 27 = .ok (.aload_n 0, 1) := by decide +kernel
theorem dX4_lay_28 : decode cX4_lay 28 = .ok (.getfield 15, 3) := by decide +kernel
theorem dX4_lay_31 : decode cX4_lay 31 = .ok (.getfield 36, 3) := by decide +kernel
theorem dX4_lay_34 : decode cX4_lay 34 = .ok (.iload_n 1, 1) := by decide +kernel
theorem dX4_lay_35 : decode cX4_lay 35 = .ok (.laload, 1) := by decide +kernel
theorem dX4_lay_36 : decode cX4_lay 36 = .ok (.sipush 2000, 3) := by decide +kernel
theorem dX4_lay_39 : decode cX4_lay 39 = .ok (.iload_n 2, 1) := by decide +kernel
theorem dX4_lay_40 : decode cX4_lay 40 = .ok (.imul, 1) := by decide +kernel
theorem dX4_lay_41 : decode cX4_lay 41 = .ok (.i2l, 1) := by decide +kernel
theorem dX4_lay_42 : decode cX4_lay 42 = .ok (.ladd, 1) := by decide +kernel
theorem dX4_lay_43 : decode cX4_lay 43 = .ok (.putfield 40, 3) := by decide +kernel
theorem dX4_lay_46 : decode cX4_lay 46 = .ok (.aload_n 0, 1) := by decide +kernel
theorem dX4_lay_47 : decode cX4_lay 47 = .ok (.aload_n 0, 1) := by decide +kernel
theorem dX4_lay_48 : decode cX4_lay 48 = .ok (.getfield 15, 3) := by decide +kernel
theorem dX4_lay_51 : decode cX4_lay 51 = .ok (.getfield 36, 3) := by decide +kernel
theorem dX4_lay_54 : decode cX4_lay 54 = .ok (.iload_n 3, 1) := by decide +kernel
theorem dX4_lay_55 : decode cX4_lay 55 = .ok (.laload, 1) := by decide +kernel
theorem dX4_lay_56 : decode cX4_lay 56 = .ok (.sipush 2000, 3) := by decide +kernel
theorem dX4_lay_59 : decode cX4_lay 59 = .ok (.iload 4, 2) := by decide +kernel
