theorem dX8_length_3 : decode cX8_length 3 = .ok (.sipush 4000, 3) := by decide +kernel
theorem dX8_length_6 : decode cX8_length 6 = .ok (.invokestatic 79, 3) := by decide +kernel
theorem dX8_length_9 : decode cX8_length 9 = .ok (.ifCond .ne 6, 3) := by decide +kernel
theorem dX8_length_12 : decode cX8_length 12 = .ok (.bipush (-2), 2) := by decide +kernel
theorem dX8_length_14 : decode cX8_length 14 = .ok (.ireturn, 1) := by decide +kernel
theorem dX8_length_15 : decode cX8_length 15 = .ok (.aload_n 0, 1) := by decide +kernel
theorem dX8_length_16 : decode cX8_length 16 = .ok (.getfield 83, 3) := by decide +kernel
theorem dX8_length_19 : decode cX8_length 19 = .ok (.ifCond .le 6, 3) := by decide +kernel
theorem dX8_length_22 : decode cX8_length 22 = .ok (.bipush (-3), 2) := by decide +kernel
theorem dX8_length_24 : decode cX8_length 24 = .ok (.ireturn, 1) := by decide +kernel
theorem dX8_length_25 : decode cX8_length 25 = .ok (.aload_n 0, 1) := by decide +kernel
theorem dX8_length_26 : decode cX8_length 26 = .ok (.getfield 7, 3) := by decide +kernel
theorem dX8_length_29 : decode cX8_length 29 = .ok (.istore_n 2, 1) := by decide +kernel
theorem dX8_length_30 : decode cX8_length 30 = .ok (.aload_n 0, 1) := by decide +kernel
theorem dX8_length_31 : decode cX8_length 31 = .ok (.iload_n 1, 1) := by decide +kernel
theorem dX8_length_32 : decode cX8_length 32 = .ok (.putfield 7, 3) := by decide +kernel
theorem dX8_length_35 : decode cX8_length 35 = .ok (.aload_n 0, 1) := by decide +kernel
theorem dX8_length_36 : decode cX8_length 36 = .ok (.iconst 0, 1) := by decide +kernel
theorem dX8_length_37 : decode cX8_length 37 = .ok (.putfield 86, 3) := by decide +kernel
theorem dX8_length_40 : decode cX8_length 40 = .ok (.aload_n 0, 1) := by decide +kernel
theorem dX8_length_41 : decode cX8_length 41 = .ok (.iconst 0, 1) := by decide +kernel
theorem dX8_length_42 : decode cX8_length 42 = .ok (.putfield 89, 3) := by decide +kernel
theorem dX8_length_45 : decode cX8_length 45 = .ok (.iload_n 2, 1) := by decide +kernel
theorem dX8_length_46 : decode cX8_length 46 = .ok (.ireturn, 1) := by decide +kernel
set_option maxRecDepth 20000 in
theorem ggX8_bend_X8_in : GoodIn wsX8_bend wsX8_in := goodIn_r _ [11] (by decide +kernel) (by decide +kernel)
set_option maxRecDepth 20000 in
theorem gX8_bend_X8_in : GoodIn wsX8_bend (va_wsS RX8 79 yX8_in wsX8_in) := goodIn_app (goodIn_of _ (by decide +kernel)) ggX8_bend_X8_in
theorem dX8_bend_0 : decode cX8_bend 0 = .ok (.iload_n 1, 1) := by decide +kernel
theorem dX8_bend_1 : decode cX8_bend 1 = .ok (.ifCond .lt 27, 3) := by decide +kernel
theorem dX8_bend_4 : decode cX8_bend 4 = .ok (.iload_n 1, 1) := by decide +kernel
theorem dX8_bend_5 : decode cX8_bend 5 = .ok (.iload_n 2, 1) := by decide +kernel
theorem dX8_bend_6 : decode cX8_bend 6 = .ok (.if_icmp .ge 22, 3) := by decide +kernel
theorem dX8_bend_9 : decode cX8_bend 9 = .ok (.iload_n 2, 1) := by decide +kernel
theorem dX8_bend_10 : decode cX8_bend 10 = .ok (.aload_n 0, 1) := by decide +kernel
theorem dX8_bend_11 : decode cX8_bend 11 = .ok (.getfield 7, 3) := by decide +kernel
theorem dX8_bend_14 : decode cX8_bend 14 = .ok (.if_icmp .gt 14, 3) := by decide +kernel
theorem dX8_bend_17 : decode cX8_bend 17 = .ok (.iload_n 3, 1) := by decide +kernel
theorem dX8_bend_18 : decode cX8_bend 18 = .ok (.bipush (-50), 2) := by decide +kernel
theorem dX8_bend_20 : decode cX8_bend 20 = .ok (.bipush 50, 2) := by decide +kernel
theorem dX8_bend_22 : decode cX8_bend 22 = .ok (.invokestatic 79, 3) := by decide +kernel
theorem dX8_bend_25 : decode cX8_bend 25 = .ok (.ifCond .ne 6, 3) := by decide +kernel
theorem dX8_bend_28 : decode cX8_bend 28 = .ok (.bipush (-2), 2) := by decide +kernel
theorem dX8_bend_30 : decode cX8_bend 30 = .ok (.ireturn, 1) := by decide +kernel
theorem dX8_bend_31 : decode cX8_bend 31 = .ok (.aload_n 0, 1) := by decide +kernel
theorem dX8_bend_32 : decode cX8_bend 32 = .ok (.getfield 83, 3) := by decide +kernel
theorem dX8_bend_35 : decode cX8_bend 35 = .ok (.ifCond .le 6, 3) := by decide +kernel
theorem dX8_bend_38 : decode cX8_bend 38 = .ok (.bipush (-3), 2) := by decide +kernel
theorem dX8_bend_40 : decode cX8_bend 40 = .ok (.ireturn, 1) := by decide +kernel
theorem dX8_bend_41 : decode cX8_bend 41 = .ok (.aload_n 0, 1) := by decide +kernel
theorem dX8_bend_42 : decode cX8_bend 42 = .ok (.getfield 86, 3) := by decide +kernel
theorem dX8_bend_45 : decode cX8_bend 45 = .ok (.bipush 8, 2) := by decide +kernel
theorem dX8_bend_47 : decode cX8_bend 47 = .ok (.if_icmp .ne 6, 3) := by decide +kernel
theorem dX8_bend_50 : decode cX8_bend 50 = .ok (.bipush (-4), 2) := by decide +kernel
theorem dX8_bend_52 : decode cX8_bend 52 = .ok (.ireturn, 1) := by decide +kernel
theorem dX8_bend_53 : decode cX8_bend 53 = .ok (.iconst 0, 1) := by decide +kernel
theorem dX8_bend_54 : decode cX8_bend 54 = .ok (.istore 4, 2) := by decide +kernel
theorem dX8_bend_56 : decode cX8_bend 56 = .ok (.iload 4, 2) := by decide +kernel
theorem dX8_bend_58 : decode cX8_bend 58 = .ok (.aload_n 0, 1) := by decide +kernel
theorem dX8_bend_59 : decode cX8_bend 59 = .ok (.getfield 86, 3) := by decide +kernel
theorem dX8_bend_62 : decode cX8_bend 62 = .ok (.if_icmp .ge 34, 3) := by decide +kernel
theorem dX8_bend_65 : decode cX8_bend 65 = .ok (.iload_n 1, 1) := by decide +kernel
theorem dX8_bend_66 : decode cX8_bend 66 = .ok (.aload_n 0, 1) := by decide +kernel
theorem dX8_bend_67 : decode cX8_bend 67 = .ok (.getfield 17, 3) := by decide +kernel
theorem dX8_bend_70 : decode cX8_bend 70 = .ok (.iload 4, 2) := by decide +kernel
theorem dX8_bend_72 : decode cX8_bend 72 = .ok (.iaload, 1) := by decide +kernel
theorem dX8_bend_73 : decode cX8_bend 73 = .ok (.if_icmp .ge 17, 3) := by decide +kernel
theorem dX8_bend_76 : decode cX8_bend 76 = .ok (.aload_n 0, 1) := by decide +kernel
theorem dX8_bend_77 : decode cX8_bend 77 = .ok (.getfield 13, 3) := by decide +kernel
theorem dX8_bend_80 : decode cX8_bend 80 = .ok (.iload 4, 2) := by decide +kernel
theorem dX8_bend_82 : decode cX8_bend 82 = .ok (.iaload, 1) := by decide +kernel
theorem dX8_bend_83 : decode cX8_bend 83 = .ok (.iload_n 2, 1) := by decide +kernel
theorem dX8_bend_84 : decode cX8_bend 84 = .ok (.if_icmp .ge 6, 3) := by decide +kernel
theorem dX8_bend_87 : decode cX8_bend 87 = .ok (.bipush (-5), 2) := by decide +kernel
theorem dX8_bend_89 : decode cX8_bend 89 = .ok (.ireturn, 1) := by decide +kernel
theorem dX8_bend_90 : decode cX8_bend 90 = .ok (.iinc 4 1, 3) := by decide +kernel
theorem dX8_bend_93 : decode cX8_bend 93 = .ok (.goto (-37), 3) := by decide +kernel
theorem dX8_bend_96 : decode cX8_bend 96 = .ok (.aload_n 0, 1) := by decide +kernel
theorem dX8_bend_97 : decode cX8_bend 97 = .ok (.getfield 13, 3) := by decide +kernel
theorem dX8_bend_100 : decode cX8_bend 100 = .ok (.aload_n 0, 1) := by decide +kernel
theorem dX8_bend_101 : decode cX8_bend 101 = .ok (.getfield 86, 3) := by decide +kernel
theorem dX8_bend_104 : decode cX8_bend 104 = .ok (.iload_n 1, 1) := by decide +kernel
theorem dX8_bend_105 : decode cX8_bend 105 = .ok (.iastore, 1) := by decide +kernel
theorem dX8_bend_106 : decode cX8_bend 106 = .ok (.aload_n 0, 1) := by decide +kernel
theorem dX8_bend_107 : decode cX8_bend 107 = .ok (.getfield 17, 3) := by decide +kernel
theorem dX8_bend_110 : decode cX8_bend 110 = .ok (.aload_n 0, 1) := by decide +kernel
theorem dX8_bend_111 : decode cX8_bend 111 = .ok (.getfield 86, 3) := by decide +kernel
theorem dX8_bend_114 : decode cX8_bend 114 = .ok (.iload_n 2, 1) := by decide +kernel
theorem dX8_bend_115 : decode cX8_bend 115 = .ok (.iastore, 1) := by decide +kernel
theorem dX8_bend_116 : decode cX8_bend 116 = .ok (.aload_n 0, 1) := by decide +kernel
theorem dX8_bend_117 : decode cX8_bend 117 = .ok (.getfield 20, 3) := by decide +kernel
theorem dX8_bend_120 : decode cX8_bend 120 = .ok (.aload_n 0, 1) := by decide +kernel
theorem dX8_bend_121 : decode cX8_bend 121 = .ok (.getfield 86, 3) := by decide +kernel
theorem dX8_bend_124 : decode cX8_bend 124 = .ok (.iload_n 3, 1) := by decide +kernel
theorem dX8_bend_125 : decode cX8_bend 125 = .ok (.iastore, 1) := by decide +kernel
theorem dX8_bend_126 : decode cX8_bend 126 = .ok (.aload_n 0, 1) := by decide +kernel
theorem dX8_bend_127 : decode cX8_bend 127 = .ok (.dup, 1) := by decide +kernel
theorem dX8_bend_128 : decode cX8_bend 128 = .ok (.getfield 86, 3) := by decide +kernel
theorem dX8_bend_131 : decode cX8_bend 131 = .ok (.iconst 1, 1) := by decide +kernel
theorem dX8_bend_132 : decode cX8_bend 132 = .ok (.iadd, 1) := by decide +kernel
theorem dX8_bend_133 : decode cX8_bend 133 = .ok (.putfield 86, 3) := by decide +kernel
theorem dX8_bend_136 : decode cX8_bend 136 = .ok (.aload_n 0, 1) := by decide +kernel
theorem dX8_bend_137 : decode cX8_bend 137 = .ok (.iconst 0, 1) := by decide +kernel
theorem dX8_bend_138 : decode cX8_bend 138 = .ok (.putfield 89, 3) := by decide +kernel
theorem dX8_bend_141 : decode cX8_bend 141 = .ok (.aload_n 0, 1) := by decide +kernel
theorem dX8_bend_142 : decode cX8_bend 142 = .ok (.getfield 86, 3) := by decide +kernel
theorem dX8_bend_145 : decode cX8_bend 145 = .ok (.ireturn, 1) := by decide +kernel
theorem dX8_square_0 : decode cX8_square 0 = .ok (.iload_n 0, 1) := by decide +kernel
theorem dX8_square_1 : decode cX8_square 1 = .ok (.ifCond .le 11, 3) := by decide +kernel
theorem dX8_square_4 : decode cX8_square 4 = .ok (.iload_n 0, 1) := by decide +kernel
theorem dX8_square_5 : decode cX8_square 5 = .ok (.i2l, 1) := by decide +kernel
theorem dX8_square_6 : decode cX8_square 6 = .ok (.iload_n 0, 1) := by decide +kernel
theorem dX8_square_7 : decode cX8_square 7 = .ok (.i2l, 1) := by decide +kernel
theorem dX8_square_8 : decode cX8_square 8 = .ok (.lmul, 1) := by decide +kernel
theorem dX8_square_9 : decode cX8_square 9 = .ok (.goto 4, 3) := by decide +kernel
theorem dX8_square_12 : decode cX8_square 12 = .ok (.lconst 0, 1) := by decide +kernel
theorem dX8_square_13 : decode cX8_square 13 = .ok (.lreturn, 1) := by decide +kernel
set_option maxRecDepth 20000 in
theorem ggX8_asideAt_X8_square : GoodIn wsX8_asideAt wsX8_square := goodIn_r _ [11] (by decide +kernel) (by decide +kernel)
set_option maxRecDepth 20000 in
theorem gX8_asideAt_X8_square : GoodIn wsX8_asideAt (va_wsS RX8 93 yX8_square wsX8_square) := goodIn_app (goodIn_of _ (by decide +kernel)) ggX8_asideAt_X8_square
theorem dX8_asideAt_0 : decode cX8_asideAt 0 = .ok (.aload_n 0, 1) := by decide +kernel
theorem dX8_asideAt_1 : decode cX8_asideAt 1 = .ok (.getfield 89, 3) := by decide +kernel
theorem dX8_asideAt_4 : decode cX8_asideAt 4 = .ok (.ifCond .ne 87, 3) := by decide +kernel
theorem dX8_asideAt_7 : decode cX8_asideAt 7 = .ok (.iconst 0, 1) := by decide +kernel
theorem dX8_asideAt_8 : decode cX8_asideAt 8 = .ok (.istore_n 2, 1) := by decide +kernel
theorem dX8_asideAt_9 : decode cX8_asideAt 9 = .ok (.iload_n 2, 1) := by decide +kernel
theorem dX8_asideAt_10 : decode cX8_asideAt 10 = .ok (.aload_n 0, 1) := by decide +kernel
theorem dX8_asideAt_11 : decode cX8_asideAt 11 = .ok (.getfield 7, 3) := by decide +kernel
theorem dX8_asideAt_14 : decode cX8_asideAt 14 = .ok (.if_icmp .gt 72, 3) := by decide +kernel
theorem dX8_asideAt_17 : decode cX8_asideAt 17 = .ok (.aload_n 0, 1) := by decide +kernel
theorem dX8_asideAt_18 : decode cX8_asideAt 18 = .ok (.getfield 23, 3) := by decide +kernel
theorem dX8_asideAt_21 : decode cX8_asideAt 21 = .ok (.iload_n 2, 1) := by decide +kernel
theorem dX8_asideAt_22 : decode cX8_asideAt 22 = .ok (.lconst 0, 1) := by decide +kernel
theorem dX8_asideAt_23 : decode cX8_asideAt 23 = .ok (.lastore, 1) := by decide +kernel
theorem dX8_asideAt_24 : decode cX8_asideAt 24 = .ok (.iconst 0, 1) := by decide +kernel
theorem dX8_asideAt_25 : decode cX8_asideAt 25 = .ok (.istore_n 3, 1) := by decide +kernel
theorem dX8_asideAt_26 : decode cX8_asideAt 26 = .ok (.iload_n 3, 1) := by decide +kernel
theorem dX8_asideAt_27 : decode cX8_asideAt 27 = .ok (.aload_n 0, 1) := by decide +kernel
theorem dX8_asideAt_28 : decode cX8_asideAt 28 = .ok (.getfield 86, 3) := by decide +kernel
theorem dX8_asideAt_31 : decode cX8_asideAt 31 = .ok (.if_icmp .ge 49, 3) := by decide +kernel
theorem dX8_asideAt_34 : decode cX8_asideAt 34 = .ok (.aload_n 0, 1) := by decide +kernel
theorem dX8_asideAt_35 : decode cX8_asideAt 35 = .ok (.getfield 23, 3) := by decide +kernel
theorem dX8_asideAt_38 : decode cX8_asideAt 38 = .ok (.iload_n 2, 1) := by decide +kernel
theorem dX8_asideAt_39 : decode cX8_asideAt 39 = .ok (.dup2, 1) := by decide +kernel
theorem dX8_asideAt_40 : decode cX8_asideAt 40 = .ok (.laload, 1) := by decide +kernel
theorem dX8_asideAt_41 : decode cX8_asideAt 41 = .ok (.aload_n 0, 1) := by decide +kernel
theorem dX8_asideAt_42 : decode cX8_asideAt 42 = .ok (.getfield 20, 3) := by decide +kernel
theorem dX8_asideAt_45 : decode cX8_asideAt 45 = .ok (.iload_n 3, 1) := by decide +kernel
theorem dX8_asideAt_46 : decode cX8_asideAt 46 = .ok (.iaload, 1) := by decide +kernel
theorem dX8_asideAt_47 : decode cX8_asideAt 47 = .ok (.i2l, 1) := by decide +kernel
theorem dX8_asideAt_48 : decode cX8_asideAt 48 = .ok (.iload_n 2, 1) := by decide +kernel
theorem dX8_asideAt_49 : decode cX8_asideAt 49 = .ok (.aload_n 0, 1) := by decide +kernel
theorem dX8_asideAt_50 : decode cX8_asideAt 50 = .ok (.getfield 13, 3) := by decide +kernel
theorem dX8_asideAt_53 : decode cX8_asideAt 53 = .ok (.iload_n 3, 1) := by decide +kernel
theorem dX8_asideAt_54 : decode cX8_asideAt 54 = .ok (.iaload, 1) := by decide +kernel
theorem dX8_asideAt_55 : decode cX8_asideAt 55 = .ok (.isub, 1) := by decide +kernel
theorem dX8_asideAt_56 : decode cX8_asideAt 56 = .ok (.invokestatic 93, 3) := by decide +kernel
theorem dX8_asideAt_59 : decode cX8_asideAt 59 = .ok (.iload_n 2, 1) := by decide +kernel
theorem dX8_asideAt_60 : decode cX8_asideAt 60 = .ok (.aload_n 0, 1) := by decide +kernel
theorem dX8_asideAt_61 : decode cX8_asideAt 61 = .ok (.getfield 17, 3) := by decide +kernel
theorem dX8_asideAt_64 : decode cX8_asideAt 64 = .ok (.iload_n 3, 1) := by decide +kernel
theorem dX8_asideAt_65 : decode cX8_asideAt 65 = .ok (.iaload, 1) := by decide +kernel
theorem dX8_asideAt_66 : decode cX8_asideAt 66 = .ok (.isub, 1) := by decide +kernel
theorem dX8_asideAt_67 : decode cX8_asideAt 67 = .ok (.invokestatic 93, 3) := by decide +kernel
theorem dX8_asideAt_70 : decode cX8_asideAt 70 = .ok (.lsub, 1) := by decide +kernel
theorem dX8_asideAt_71 : decode cX8_asideAt 71 = .ok (.lmul, 1) := by decide +kernel
theorem dX8_asideAt_72 : decode cX8_asideAt 72 = .ok (.ladd, 1) := by decide +kernel
theorem dX8_asideAt_73 : decode cX8_asideAt 73 = .ok (.lastore, 1) := by decide +kernel
theorem dX8_asideAt_74 : decode cX8_asideAt 74 = .ok (.iinc 3 1, 3) := by decide +kernel
theorem dX8_asideAt_77 : decode cX8_asideAt 77 = .ok (.goto (-51), 3) := by decide +kernel
theorem dX8_asideAt_80 : decode cX8_asideAt 80 = .ok (.iinc 2 1, 3) := by decide +kernel
theorem dX8_asideAt_83 : decode cX8_asideAt 83 = .ok (.goto (-74), 3) := by decide +kernel
theorem dX8_asideAt_86 : decode cX8_asideAt 86 = .ok (.aload_n 0, 1) := by decide +kernel
theorem dX8_asideAt_87 : decode cX8_asideAt 87 = .ok (.iconst 1, 1) := by decide +kernel
theorem dX8_asideAt_88 : decode cX8_asideAt 88 = .ok (.putfield 89, 3) := by decide +kernel
theorem dX8_asideAt_91 : decode cX8_asideAt 91 = .ok (.aload_n 0, 1) := by decide +kernel
theorem dX8_asideAt_92 : decode cX8_asideAt 92 = .ok (.getfield 23, 3) := by decide +kernel
theorem dX8_asideAt_95 : decode cX8_asideAt 95 = .ok (.iload_n 1, 1) := by decide +kernel
theorem dX8_asideAt_96 : decode cX8_asideAt 96 = .ok (.laload, 1) := by decide +kernel
theorem dX8_asideAt_97 : decode cX8_asideAt 97 = .ok (.lreturn, 1) := by decide +kernel
set_option maxRecDepth 20000 in
theorem ggX8_aside_X8_in : GoodIn wsX8_aside wsX8_in := goodIn_r _ [6] (by decide +kernel) (by decide +kernel)
set_option maxRecDepth 20000 in
theorem gX8_aside_X8_in : GoodIn wsX8_aside (va_wsS RX8 79 yX8_in wsX8_in) := goodIn_app (goodIn_of _ (by decide +kernel)) ggX8_aside_X8_in
set_option maxRecDepth 20000 in
theorem ggX8_aside_X8_asideAt : GoodIn wsX8_aside wsX8_asideAt := goodIn_r _ [10, 11, 1, 12, 13, 14, 15, 16, 17, 18, 5, 19, 20, 21, 22, 23, 24, 25, 26, 27, 28, 29, 30, 31, 32, 33, 34, 35, 36, 37, 38, 39, 40, 41, 42, 43, 44, 45, 46] (by decide +kernel) (by decide +kernel)
set_option maxRecDepth 20000 in
theorem gX8_aside_X8_asideAt : GoodIn wsX8_aside (wsV RX8 97 RX8 yX8_asideAt wsX8_asideAt) := goodIn_app (goodIn_of _ (by decide +kernel)) ggX8_aside_X8_asideAt
theorem dX8_aside_0 : decode cX8_aside 0 = .ok (.iload_n 1, 1) := by decide +kernel
theorem dX8_aside_1 : decode cX8_aside 1 = .ok (.iconst 0, 1) := by decide +kernel
theorem dX8_aside_2 : decode cX8_aside 2 = .ok (.aload_n 0, 1) := by decide +kernel
theorem dX8_aside_3 : decode cX8_aside 3 = .ok (.getfield 7, 3) := by decide +kernel
theorem dX8_aside_6 : decode cX8_aside 6 = .ok (.invokestatic 79, 3) := by decide +kernel
theorem dX8_aside_9 : decode cX8_aside 9 = .ok (.ifCond .eq 11, 3) := by decide +kernel
theorem dX8_aside_12 : decode cX8_aside 12 = .ok (.aload_n 0, 1) := by decide +kernel
theorem dX8_aside_13 : decode cX8_aside 13 = .ok (.iload_n 1, 1) := by decide +kernel
theorem dX8_aside_14 : decode cX8_aside 14 = .ok (.invokevirtual 97, 3) := by decide +kernel
theorem dX8_aside_17 : decode cX8_aside 17 = .ok (.goto 6, 3) := by decide +kernel
theorem dX8_aside_20 : decode cX8_aside 20 = .ok (.ldc2_w 100, 3) := by decide +kernel
theorem dX8_aside_23 : decode cX8_aside 23 = .ok (.lreturn, 1) := by decide +kernel
theorem dX8_masts_0 : decode cX8_masts 0 = .ok (.iconst 0, 1) := by decide +kernel
theorem dX8_masts_1 : decode cX8_masts 1 = .ok (.istore_n 1, 1) := by decide +kernel
theorem dX8_masts_2 : decode cX8_masts 2 = .ok (.iconst 0, 1) := by decide +kernel
theorem dX8_masts_3 : decode cX8_masts 3 = .ok (.istore_n 2, 1) := by decide +kernel
theorem dX8_masts_4 : decode cX8_masts 4 = .ok (.iload_n 2, 1) := by decide +kernel
theorem dX8_masts_5 : decode cX8_masts 5 = .ok (.aload_n 0, 1) := by decide +kernel
theorem dX8_masts_6 : decode cX8_masts 6 = .ok (.getfield 83, 3) := by decide +kernel
theorem dX8_masts_9 : decode cX8_masts 9 = .ok (.if_icmp .ge 26, 3) := by decide +kernel
theorem dX8_masts_12 : decode cX8_masts 12 = .ok (.iload_n 1, 1) := by decide +kernel
theorem dX8_masts_13 : decode cX8_masts 13 = .ok (.aload_n 0, 1) := by decide +kernel
theorem dX8_masts_14 : decode cX8_masts 14 = .ok (.getfield 33, 3) := by decide +kernel
theorem dX8_masts_17 : decode cX8_masts 17 = .ok (.iload_n 2, 1) := by decide +kernel
theorem dX8_masts_18 : decode cX8_masts 18 = .ok (.baload, 1) := by decide +kernel
theorem dX8_masts_19 : decode cX8_masts 19 = .ok (.ifCond .eq 7, 3) := by decide +kernel
theorem dX8_masts_22 : decode cX8_masts 22 = .ok (.iconst 1, 1) := by decide +kernel
theorem dX8_masts_23 : decode cX8_masts 23 = .ok (.goto 4, 3) := by decide +kernel
theorem dX8_masts_26 : decode cX8_masts 26 = .ok (.iconst 0, 1) := by decide +kernel
theorem dX8_masts_27 : decode cX8_masts 27 = .ok (.iadd, 1) := by decide +kernel
theorem dX8_masts_28 : decode cX8_masts 28 = .ok (.istore_n 1, 1) := by decide +kernel
theorem dX8_masts_29 : decode cX8_masts 29 = .ok (.iinc 2 1, 3) := by decide +kernel
theorem dX8_masts_32 : decode cX8_masts 32 = .ok (.goto (-28), 3) := by decide +kernel
theorem dX8_masts_35 : decode cX8_masts 35 = .ok (.iload_n 1, 1) := by decide +kernel
theorem dX8_masts_36 : decode cX8_masts 36 = .ok (.ireturn, 1) := by decide +kernel
set_option maxRecDepth 20000 in
theorem ggX8_peg_X8_in : GoodIn wsX8_peg wsX8_in := goodIn_r _ [10] (by decide +kernel) (by decide +kernel)
set_option maxRecDepth 20000 in
theorem gX8_peg_X8_in : GoodIn wsX8_peg (va_wsS RX8 79 yX8_in wsX8_in) := goodIn_app (goodIn_of _ (by decide +kernel)) ggX8_peg_X8_in
set_option maxRecDepth 20000 in
theorem ggX8_peg_X8_masts : GoodIn wsX8_peg wsX8_masts := goodIn_r _ [14, 2, 5, 15, 16, 17, 18, 19, 20, 21, 22, 23, 24, 25, 26, 27, 28, 29, 30, 31, 32, 33, 34, 35, 36, 37, 38, 39, 40, 41] (by decide +kernel) (by decide +kernel)
set_option maxRecDepth 20000 in
theorem gX8_peg_X8_masts : GoodIn wsX8_peg (wsV RX8 102 RX8 yX8_masts wsX8_masts) := goodIn_app (goodIn_of _ (by decide +kernel)) ggX8_peg_X8_masts
theorem dX8_peg_0 : decode cX8_peg 0 = .ok (.iload_n 1, 1) := by decide +kernel
theorem dX8_peg_1 : decode cX8_peg 1 = .ok (.iconst 0, 1) := by decide +kernel
theorem dX8_peg_2 : decode cX8_peg 2 = .ok (.aload_n 0, 1) := by decide +kernel
theorem dX8_peg_3 : decode cX8_peg 3 = .ok (.getfield 7, 3) := by decide +kernel
theorem dX8_peg_6 : decode cX8_peg 6 = .ok (.invokestatic 79, 3) := by decide +kernel
theorem dX8_peg_9 : decode cX8_peg 9 = .ok (.ifCond .eq 14, 3) := by decide +kernel
theorem dX8_peg_12 : decode cX8_peg 12 = .ok (.iload_n 2, 1) := by decide +kernel
theorem dX8_peg_13 : decode cX8_peg 13 = .ok (.iconst 1, 1) := by decide +kernel
theorem dX8_peg_14 : decode cX8_peg 14 = .ok (.sipush 1000, 3) := by decide +kernel
theorem dX8_peg_17 : decode cX8_peg 17 = .ok (.invokestatic 79, 3) := by decide +kernel
theorem dX8_peg_20 : decode cX8_peg 20 = .ok (.ifCond .ne 6, 3) := by decide +kernel
theorem dX8_peg_23 : decode cX8_peg 23 = .ok (.bipush (-2), 2) := by decide +kernel
theorem dX8_peg_25 : decode cX8_peg 25 = .ok (.ireturn, 1) := by decide +kernel
theorem dX8_peg_26 : decode cX8_peg 26 = .ok (.aload_n 0, 1) := by decide +kernel
theorem dX8_peg_27 : decode cX8_peg 27 = .ok (.invokevirtual 102, 3) := by decide +kernel
theorem dX8_peg_30 : decode cX8_peg 30 = .ok (.ifCond .le 6, 3) := by decide +kernel
theorem dX8_peg_33 : decode cX8_peg 33 = .ok (.bipush (-3), 2) := by decide +kernel
theorem dX8_peg_35 : decode cX8_peg 35 = .ok (.ireturn, 1) := by decide +kernel
theorem dX8_peg_36 : decode cX8_peg 36 = .ok (.aload_n 0, 1) := by decide +kernel
theorem dX8_peg_37 : decode cX8_peg 37 = .ok (.getfield 83, 3) := by decide +kernel
theorem dX8_peg_40 : decode cX8_peg 40 = .ok (.bipush 40, 2) := by decide +kernel
theorem dX8_peg_42 : decode cX8_peg 42 = .ok (.if_icmp .ne 6, 3) := by decide +kernel
theorem dX8_peg_45 : decode cX8_peg 45 = .ok (.bipush (-4), 2) := by decide +kernel
theorem dX8_peg_47 : decode cX8_peg 47 = .ok (.ireturn, 1) := by decide +kernel
theorem dX8_peg_48 : decode cX8_peg 48 = .ok (.aload_n 0, 1) := by decide +kernel
theorem dX8_peg_49 : decode cX8_peg 49 = .ok (.getfield 83, 3) := by decide +kernel
theorem dX8_peg_52 : decode cX8_peg 52 = .ok (.istore_n 3, 1) := by decide +kernel
theorem dX8_peg_53 : decode cX8_peg 53 = .ok (.aload_n 0, 1) := by decide +kernel
theorem dX8_peg_54 : decode cX8_peg 54 = .ok (.getfield 83, 3) := by decide +kernel
theorem dX8_peg_57 : decode cX8_peg 57 = .ok (.iconst 1, 1) := by decide +kernel
theorem dX8_peg_58 : decode cX8_peg 58 = .ok (.isub, 1) := by decide +kernel
theorem dX8_peg_59 : decode cX8_peg 59 = .ok (.istore 4, 2) := by decide +kernel
theorem dX8_peg_61 : decode cX8_peg 61 = .ok (.iload 4, 2) := by decide +kernel
theorem dX8_peg_63 : decode cX8_peg 63 = .ok (.ifCond .lt 27, 3) := by decide +kernel
theorem dX8_peg_66 : decode cX8_peg 66 = .ok (.aload_n 0, 1) := by decide +kernel
theorem dX8_peg_67 : decode cX8_peg 67 = .ok (.getfield 27, 3) := by decide +kernel
theorem dX8_peg_70 : decode cX8_peg 70 = .ok (.iload 4, 2) := by decide +kernel
theorem dX8_peg_72 : decode cX8_peg 72 = .ok (.iaload, 1) := by decide +kernel
theorem dX8_peg_73 : decode cX8_peg 73 = .ok (.iload_n 1, 1) := by decide +kernel
theorem dX8_peg_74 : decode cX8_peg 74 = .ok (.if_icmp .lt 8, 3) := by decide +kernel
theorem dX8_peg_77 : decode cX8_peg 77 = .ok (.iload 4, 2) := by decide +kernel
theorem dX8_peg_79 : decode cX8_peg 79 = .ok (.goto 4, 3) := by decide +kernel
theorem dX8_peg_82 : decode cX8_peg 82 = .ok (.iload_n 3, 1) := by decide +kernel
theorem dX8_peg_83 : decode cX8_peg 83 = .ok (.istore_n 3, 1) := by decide +kernel
theorem dX8_peg_84 : decode cX8_peg 84 = .ok (.iinc 4 (-1), 3) := by decide +kernel
theorem dX8_peg_87 : decode cX8_peg 87 = .ok (.goto (-26), 3) := by decide +kernel
theorem dX8_peg_90 : decode cX8_peg 90 = .ok (.iload_n 3, 1) := by decide +kernel
theorem dX8_peg_91 : decode cX8_peg 91 = .ok (.aload_n 0, 1) := by decide +kernel
theorem dX8_peg_92 : decode cX8_peg 92 = .ok (.getfield 83, 3) := by decide +kernel
theorem dX8_peg_95 : decode cX8_peg 95 = .ok (.if_icmp .ge 16, 3) := by decide +kernel
theorem dX8_peg_98 : decode cX8_peg 98 = .ok (.aload_n 0, 1) := by decide +kernel
theorem dX8_peg_99 : decode cX8_peg 99 = .ok (.getfield 27, 3) := by decide +kernel
theorem dX8_peg_102 : decode cX8_peg 102 = .ok (.iload_n 3, 1) := by decide +kernel
theorem dX8_peg_103 : decode cX8_peg 103 = .ok (.iaload, 1) := by decide +kernel
theorem dX8_peg_104 : decode cX8_peg 104 = .ok (.iload_n 1, 1) := by decide +kernel
theorem dX8_peg_105 : decode cX8_peg 105 = .ok (.if_icmp .ne 6, 3) := by decide +kernel
theorem dX8_peg_108 : decode cX8_peg 108 = .ok (.bipush (-5), 2) := by decide +kernel
theorem dX8_peg_110 : decode cX8_peg 110 = .ok (.ireturn, 1) := by decide +kernel
theorem dX8_peg_111 : decode cX8_peg 111 = .ok (.aload_n 0, 1) := by decide +kernel
theorem dX8_peg_112 : decode cX8_peg 112 = .ok (.getfield 83, 3) := by decide +kernel
theorem dX8_peg_115 : decode cX8_peg 115 = .ok (.istore 4, 2) := by decide +kernel
theorem dX8_peg_117 : decode cX8_peg 117 = .ok (.iload 4, 2) := by decide +kernel
theorem dX8_peg_119 : decode cX8_peg 119 = .ok (.iload_n 3, 1) := by decide +kernel
theorem dX8_peg_120 : decode cX8_peg 120 = .ok (.if_icmp .le 41, 3) := by decide +kernel
theorem dX8_peg_123 : decode cX8_peg 123 = .ok (.aload_n 0, 1) := by decide +kernel
theorem dX8_peg_124 : decode cX8_peg 124 = .ok (.getfield 27, 3) := by decide +kernel
theorem dX8_peg_127 : decode cX8_peg 127 = .ok (.iload 4, 2) := by decide +kernel
theorem dX8_peg_129 : decode cX8_peg 129 = .ok (.aload_n 0, 1) := by decide +kernel
theorem dX8_peg_130 : decode cX8_peg 130 = .ok (.getfield 27, 3) := by decide +kernel
theorem dX8_peg_133 : decode cX8_peg 133 = .ok (.iload 4, 2) := by decide +kernel
theorem dX8_peg_135 : decode cX8_peg 135 = .ok (.iconst 1, 1) := by decide +kernel
theorem dX8_peg_136 : decode cX8_peg 136 = .ok (.isub, 1) := by decide +kernel
theorem dX8_peg_137 : decode cX8_peg 137 = .ok (.iaload, 1) := by decide +kernel
theorem dX8_peg_138 : decode cX8_peg 138 = .ok (.iastore, 1) := by decide +kernel
theorem dX8_peg_139 : decode cX8_peg 139 = .ok (.aload_n 0, 1) := by decide +kernel
theorem dX8_peg_140 : decode cX8_peg 140 = .ok (.getfield 30, 3) := by decide +kernel
theorem dX8_peg_143 : decode cX8_peg 143 = .ok (.iload 4, 2) := by decide +kernel
theorem dX8_peg_145 : decode cX8_peg 145 = .ok (.aload_n 0, 1) := by decide +kernel
theorem dX8_peg_146 : decode cX8_peg 146 = .ok (.getfield 30, 3) := by decide +kernel
theorem dX8_peg_149 : decode cX8_peg 149 = .ok (.iload 4, 2) := by decide +kernel
theorem dX8_peg_151 : decode cX8_peg 151 = .ok (.iconst 1, 1) := by decide +kernel
theorem dX8_peg_152 : decode cX8_peg 152 = .ok (.isub, 1) := by decide +kernel
theorem dX8_peg_153 : decode cX8_peg 153 = .ok (.iaload, 1) := by decide +kernel
theorem dX8_peg_154 : decode cX8_peg 154 = .ok (.iastore, 1) := by decide +kernel
theorem dX8_peg_155 : decode cX8_peg 155 = .ok (.iinc 4 (-1), 3) := by decide +kernel
theorem dX8_peg_158 : decode cX8_peg 158 = .ok (.goto (-41), 3) := by decide +kernel
theorem dX8_peg_161 : decode cX8_peg 161 = .ok (.aload_n 0, 1) := by decide +kernel
theorem dX8_peg_162 : decode cX8_peg 162 = .ok (.getfield 27, 3) := by decide +kernel
theorem dX8_peg_165 : decode cX8_peg 165 = .ok (.iload_n 3, 1) := by decide +kernel
theorem dX8_peg_166 : decode cX8_peg 166 = .ok (.iload_n 1, 1) := by decide +kernel
theorem dX8_peg_167 : decode cX8_peg 167 = .ok (.iastore, 1) := by decide +kernel
theorem dX8_peg_168 : decode cX8_peg 168 = .ok (.aload_n 0, 1) := by decide +kernel
theorem dX8_peg_169 : decode cX8_peg 169 = .ok (.getfield 30, 3) := by decide +kernel
theorem dX8_peg_172 : decode cX8_peg 172 = .ok (.iload_n 3, 1) := by decide +kernel
theorem dX8_peg_173 : decode cX8_peg 173 = .ok (.iload_n 2, 1) := by decide +kernel
theorem dX8_peg_174 : decode cX8_peg 174 = .ok (.iastore, 1) := by decide +kernel
theorem dX8_peg_175 : decode cX8_peg 175 = .ok (.aload_n 0, 1) := by decide +kernel
theorem dX8_peg_176 : decode cX8_peg 176 = .ok (.getfield 33, 3) := by decide +kernel
theorem dX8_peg_179 : decode cX8_peg 179 = .ok (.aload_n 0, 1) := by decide +kernel
theorem dX8_peg_180 : decode cX8_peg 180 = .ok (.getfield 83, 3) := by decide +kernel
theorem dX8_peg_183 : decode cX8_peg 183 = .ok (.iconst 0, 1) := by decide +kernel
theorem dX8_peg_184 : decode cX8_peg 184 = .ok (.bastore, 1) := by decide +kernel
theorem dX8_peg_185 : decode cX8_peg 185 = .ok (.aload_n 0, 1) := by decide +kernel
theorem dX8_peg_186 : decode cX8_peg 186 = .ok (.getfield 37, 3) := by decide +kernel
theorem dX8_peg_189 : decode cX8_peg 189 = .ok (.aload_n 0, 1) := by decide +kernel
theorem dX8_peg_190 : decode cX8_peg 190 = .ok (.getfield 83, 3) := by decide +kernel
theorem dX8_peg_193 : decode cX8_peg 193 = .ok (.iconst 0, 1) := by decide +kernel
theorem dX8_peg_194 : decode cX8_peg 194 = .ok (.iastore, 1) := by decide +kernel
theorem dX8_peg_195 : decode cX8_peg 195 = .ok (.aload_n 0, 1) := by decide +kernel
theorem dX8_peg_196 : decode cX8_peg 196 = .ok (.dup, 1) := by decide +kernel
theorem dX8_peg_197 : decode cX8_peg 197 = .ok (.getfield 83, 3) := by decide +kernel
theorem dX8_peg_200 : decode cX8_peg 200 = .ok (.iconst 1, 1) := by decide +kernel
theorem dX8_peg_201 : decode cX8_peg 201 = .ok (.iadd, 1) := by decide +kernel
theorem dX8_peg_202 : decode cX8_peg 202 = .ok (.putfield 83, 3) := by decide +kernel
theorem dX8_peg_205 : decode cX8_peg 205 = .ok (.iload_n 3, 1) := by decide +kernel
theorem dX8_peg_206 : decode cX8_peg 206 = .ok (.ireturn, 1) := by decide +kernel
set_option maxRecDepth 20000 in
theorem ggX8_isPeg_X8_in : GoodIn wsX8_isPeg wsX8_in := goodIn_r _ [5] (by decide +kernel) (by decide +kernel)
set_option maxRecDepth 20000 in
theorem gX8_isPeg_X8_in : GoodIn wsX8_isPeg (va_wsS RX8 79 yX8_in wsX8_in) := goodIn_app (goodIn_of _ (by decide +kernel)) ggX8_isPeg_X8_in
theorem dX8_isPeg_0 : decode cX8_isPeg 0 = .ok (.iload_n 1, 1) := by decide +kernel
theorem dX8_isPeg_1 : decode cX8_isPeg 1 = .ok (.iconst 0, 1) := by decide +kernel
theorem dX8_isPeg_2 : decode cX8_isPeg 2 = .ok (.aload_n 0, 1) := by decide +kernel
theorem dX8_isPeg_3 : decode cX8_isPeg 3 = .ok (.getfield 83, 3) := by decide +kernel
theorem dX8_isPeg_6 : decode cX8_isPeg 6 = .ok (.iconst 1, 1) := by decide +kernel
theorem dX8_isPeg_7 : decode cX8_isPeg 7 = .ok (.isub, 1) := by decide +kernel
theorem dX8_isPeg_8 : decode cX8_isPeg 8 = .ok (.invokestatic 79, 3) := by decide +kernel
theorem dX8_isPeg_11 : decode cX8_isPeg 11 = .ok (.ireturn, 1) := by decide +kernel
set_option maxRecDepth 20000 in
theorem ggX8_mast_X8_isPeg : GoodIn wsX8_mast wsX8_isPeg := goodIn_r _ [7, 8, 9, 10, 6, 11, 16, 17, 18, 19, 20, 21, 22, 23, 24, 25, 26, 27, 28, 29, 30, 31, 32, 33, 34, 35, 36, 37, 38, 39, 40, 41, 42] (by decide +kernel) (by decide +kernel)
set_option maxRecDepth 20000 in
theorem gX8_mast_X8_isPeg : GoodIn wsX8_mast (wsV RX8 106 RX8 yX8_isPeg wsX8_isPeg) := goodIn_app (goodIn_of _ (by decide +kernel)) ggX8_mast_X8_isPeg
set_option maxRecDepth 20000 in
theorem ggX8_mast_X8_in : GoodIn wsX8_mast wsX8_in := goodIn_r _ [11] (by decide +kernel) (by decide +kernel)
set_option maxRecDepth 20000 in
theorem gX8_mast_X8_in : GoodIn wsX8_mast (va_wsS RX8 79 yX8_in wsX8_in) := goodIn_app (goodIn_of _ (by decide +kernel)) ggX8_mast_X8_in
set_option maxRecDepth 20000 in
theorem ggX8_mast_X8_masts : GoodIn wsX8_mast wsX8_masts := goodIn_r _ [15, 8, 1, 16, 17, 18, 19, 20, 21, 22, 23, 24, 25, 26, 27, 28, 29, 30, 31, 32, 33, 34, 35, 36, 37, 38, 39, 40, 41, 42] (by decide +kernel) (by decide +kernel)
set_option maxRecDepth 20000 in
theorem gX8_mast_X8_masts : GoodIn wsX8_mast (wsV RX8 102 RX8 yX8_masts wsX8_masts) := goodIn_app (goodIn_of _ (by decide +kernel)) ggX8_mast_X8_masts
theorem dX8_mast_0 : decode cX8_mast 0 = .ok (.aload_n 0, 1) := by decide +kernel
theorem dX8_mast_1 : decode cX8_mast 1 = .ok (.iload_n 1, 1) := by decide +kernel
theorem dX8_mast_2 : decode cX8_mast 2 = .ok (.invokevirtual 106, 3) := by decide +kernel
theorem dX8_mast_5 : decode cX8_mast 5 = .ok (.ifCond .ne 5, 3) := by decide +kernel
theorem dX8_mast_8 : decode cX8_mast 8 = .ok (.iconst (-1), 1) := by decide +kernel
theorem dX8_mast_9 : decode cX8_mast 9 = .ok (.ireturn, 1) := by decide +kernel
theorem dX8_mast_10 : decode cX8_mast 10 = .ok (.iload_n 2, 1) := by decide +kernel
theorem dX8_mast_11 : decode cX8_mast 11 = .ok (.sipush (-400), 3) := by decide +kernel
theorem dX8_mast_14 : decode cX8_mast 14 = .ok (.sipush 400, 3) := by decide +kernel
theorem dX8_mast_17 : decode cX8_mast 17 = .ok (.invokestatic 79, 3) := by decide +kernel
theorem dX8_mast_20 : decode cX8_mast 20 = .ok (.ifCond .ne 6, 3) := by decide +kernel
theorem dX8_mast_23 : decode cX8_mast 23 = .ok (.bipush (-2), 2) := by decide +kernel
theorem dX8_mast_25 : decode cX8_mast 25 = .ok (.ireturn, 1) := by decide +kernel
theorem dX8_mast_26 : decode cX8_mast 26 = .ok (.aload_n 0, 1) := by decide +kernel
theorem dX8_mast_27 : decode cX8_mast 27 = .ok (.getfield 33, 3) := by decide +kernel
theorem dX8_mast_30 : decode cX8_mast 30 = .ok (.iload_n 1, 1) := by decide +kernel
theorem dX8_mast_31 : decode cX8_mast 31 = .ok (.iconst 1, 1) := by decide +kernel
theorem dX8_mast_32 : decode cX8_mast 32 = .ok (.bastore, 1) := by decide +kernel
theorem dX8_mast_33 : decode cX8_mast 33 = .ok (.aload_n 0, 1) := by decide +kernel
theorem dX8_mast_34 : decode cX8_mast 34 = .ok (.getfield 37, 3) := by decide +kernel
theorem dX8_mast_37 : decode cX8_mast 37 = .ok (.iload_n 1, 1) := by decide +kernel
theorem dX8_mast_38 : decode cX8_mast 38 = .ok (.iload_n 2, 1) := by decide +kernel
theorem dX8_mast_39 : decode cX8_mast 39 = .ok (.iastore, 1) := by decide +kernel
theorem dX8_mast_40 : decode cX8_mast 40 = .ok (.aload_n 0, 1) := by decide +kernel
theorem dX8_mast_41 : decode cX8_mast 41 = .ok (.invokevirtual 102, 3) := by decide +kernel
theorem dX8_mast_44 : decode cX8_mast 44 = .ok (.ireturn, 1) := by decide +kernel
set_option maxRecDepth 20000 in
theorem ggX8_fell_X8_isPeg : GoodIn wsX8_fell wsX8_isPeg := goodIn_r _ [7, 8, 9, 10, 6, 11, 16, 17, 18, 19, 20, 21, 22, 23, 24, 25, 26, 27, 28, 29, 30, 31, 32, 33, 34, 35, 36, 37, 38, 39, 40, 41, 42] (by decide +kernel) (by decide +kernel)
set_option maxRecDepth 20000 in
theorem gX8_fell_X8_isPeg : GoodIn wsX8_fell (wsV RX8 106 RX8 yX8_isPeg wsX8_isPeg) := goodIn_app (goodIn_of _ (by decide +kernel)) ggX8_fell_X8_isPeg
set_option maxRecDepth 20000 in
theorem ggX8_fell_X8_masts : GoodIn wsX8_fell wsX8_masts := goodIn_r _ [15, 8, 1, 16, 17, 18, 19, 20, 21, 22, 23, 24, 25, 26, 27, 28, 29, 30, 31, 32, 33, 34, 35, 36, 37, 38, 39, 40, 41, 42] (by decide +kernel) (by decide +kernel)
set_option maxRecDepth 20000 in
theorem gX8_fell_X8_masts : GoodIn wsX8_fell (wsV RX8 102 RX8 yX8_masts wsX8_masts) := goodIn_app (goodIn_of _ (by decide +kernel)) ggX8_fell_X8_masts
theorem dX8_fell_0 : decode cX8_fell 0 = .ok (.aload_n 0, 1) := by decide +kernel
theorem dX8_fell_1 : decode cX8_fell 1 = .ok (.iload_n 1, 1) := by decide +kernel
theorem dX8_fell_2 : decode cX8_fell 2 = .ok (.invokevirtual 106, 3) := by decide +kernel
theorem dX8_fell_5 : decode cX8_fell 5 = .ok (.ifCond .ne 5, 3) := by decide +kernel
theorem dX8_fell_8 : decode cX8_fell 8 = .ok (.iconst (-1), 1) := by decide +kernel
theorem dX8_fell_9 : decode cX8_fell 9 = .ok (.ireturn, 1) := by decide +kernel
theorem dX8_fell_10 : decode cX8_fell 10 = .ok (.aload_n 0, 1) := by decide +kernel
theorem dX8_fell_11 : decode cX8_fell 11 = .ok (.getfield 33, 3) := by decide +kernel
theorem dX8_fell_14 : decode cX8_fell 14 = .ok (.iload_n 1, 1) := by decide +kernel
theorem dX8_fell_15 : decode cX8_fell 15 = .ok (.baload, 1) := by decide +kernel
theorem dX8_fell_16 : decode cX8_fell 16 = .ok (.ifCond .ne 6, 3) := by decide +kernel
theorem dX8_fell_19 : decode cX8_fell 19 = .ok (.bipush (-3), 2) := by decide +kernel
theorem dX8_fell_21 : decode cX8_fell 21 = .ok (.ireturn, 1) := by decide +kernel
theorem dX8_fell_22 : decode cX8_fell 22 = .ok (.aload_n 0, 1) := by decide +kernel
theorem dX8_fell_23 : decode cX8_fell 23 = .ok (.getfield 33, 3) := by decide +kernel
theorem dX8_fell_26 : decode cX8_fell 26 = .ok (.iload_n 1, 1) := by decide +kernel
theorem dX8_fell_27 : decode cX8_fell 27 = .ok (.iconst 0, 1) := by decide +kernel
theorem dX8_fell_28 : decode cX8_fell 28 = .ok (.bastore, 1) := by decide +kernel
theorem dX8_fell_29 : decode cX8_fell 29 = .ok (.aload_n 0, 1) := by decide +kernel
theorem dX8_fell_30 : decode cX8_fell 30 = .ok (.getfield 37, 3) := by decide +kernel
theorem dX8_fell_33 : decode cX8_fell 33 = .ok (.iload_n 1, 1) := by decide +kernel
theorem dX8_fell_34 : decode cX8_fell 34 = .ok (.iconst 0, 1) := by decide +kernel
theorem dX8_fell_35 : decode cX8_fell 35 = .ok (.iastore, 1) := by decide +kernel
theorem dX8_fell_36 : decode cX8_fell 36 = .ok (.aload_n 0, 1) := by decide +kernel
theorem dX8_fell_37 : decode cX8_fell 37 = .ok (.invokevirtual 102, 3) := by decide +kernel
theorem dX8_fell_40 : decode cX8_fell 40 = .ok (.ireturn, 1) := by decide +kernel
theorem dX8_clear_0 : decode cX8_clear 0 = .ok (.aload_n 0, 1) := by decide +kernel
theorem dX8_clear_1 : decode cX8_clear 1 = .ok (.getfield 83, 3) := by decide +kernel
theorem dX8_clear_4 : decode cX8_clear 4 = .ok (.istore_n 1, 1) := by decide +kernel
theorem dX8_clear_5 : decode cX8_clear 5 = .ok (.iconst 0, 1) := by decide +kernel
theorem dX8_clear_6 : decode cX8_clear 6 = .ok (.istore_n 2, 1) := by decide +kernel
theorem dX8_clear_7 : decode cX8_clear 7 = .ok (.iload_n 2, 1) := by decide +kernel
theorem dX8_clear_8 : decode cX8_clear 8 = .ok (.bipush 40, 2) := by decide +kernel
theorem dX8_clear_10 : decode cX8_clear 10 = .ok (.if_icmp .ge 23, 3) := by decide +kernel
theorem dX8_clear_13 : decode cX8_clear 13 = .ok (.aload_n 0, 1) := by decide +kernel
theorem dX8_clear_14 : decode cX8_clear 14 = .ok (.getfield 33, 3) := by decide +kernel
theorem dX8_clear_17 : decode cX8_clear 17 = .ok (.iload_n 2, 1) := by decide +kernel
theorem dX8_clear_18 : decode cX8_clear 18 = .ok (.iconst 0, 1) := by decide +kernel
theorem dX8_clear_19 : decode cX8_clear 19 = .ok (.bastore, 1) := by decide +kernel
theorem dX8_clear_20 : decode cX8_clear 20 = .ok (.aload_n 0, 1) := by decide +kernel
theorem dX8_clear_21 : decode cX8_clear 21 = .ok (.getfield 37, 3) := by decide +kernel
theorem dX8_clear_24 : decode cX8_clear 24 = .ok (.iload_n 2, 1) := by decide +kernel
theorem dX8_clear_25 : decode cX8_clear 25 = .ok (.iconst 0, 1) := by decide +kernel
theorem dX8_clear_26 : decode cX8_clear 26 = .ok (.iastore, 1) := by decide +kernel
theorem dX8_clear_27 : decode cX8_clear 27 = .ok (.iinc 2 1, 3) := by decide +kernel
theorem dX8_clear_30 : decode cX8_clear 30 = .ok (.goto (-23), 3) := by decide +kernel
theorem dX8_clear_33 : decode cX8_clear 33 = .ok (.aload_n 0, 1) := by decide +kernel
theorem dX8_clear_34 : decode cX8_clear 34 = .ok (.iconst 0, 1) := by decide +kernel
theorem dX8_clear_35 : decode cX8_clear 35 = .ok (.putfield 83, 3) := by decide +kernel
theorem dX8_clear_38 : decode cX8_clear 38 = .ok (.aload_n 0, 1) := by decide +kernel
theorem dX8_clear_39 : decode cX8_clear 39 = .ok (.iconst 0, 1) := by decide +kernel
theorem dX8_clear_40 : decode cX8_clear 40 = .ok (.putfield 86, 3) := by decide +kernel
theorem dX8_clear_43 : decode cX8_clear 43 = .ok (.aload_n 0, 1) := by decide +kernel
theorem dX8_clear_44 : decode cX8_clear 44 = .ok (.iconst 0, 1) := by decide +kernel
theorem dX8_clear_45 : decode cX8_clear 45 = .ok (.putfield 89, 3) := by decide +kernel
theorem dX8_clear_48 : decode cX8_clear 48 = .ok (.iload_n 1, 1) := by decide +kernel
theorem dX8_clear_49 : decode cX8_clear 49 = .ok (.ireturn, 1) := by decide +kernel
set_option maxRecDepth 20000 in
theorem ggX8_about_X8_isPeg : GoodIn wsX8_about wsX8_isPeg := goodIn_r _ [9, 10, 11, 12, 8, 13, 14, 15, 16, 17, 18, 19, 20, 21, 22, 23, 24, 25, 26, 27, 28, 29, 30, 31, 32, 33, 34, 35, 36, 37, 38, 39, 40] (by decide +kernel) (by decide +kernel)
set_option maxRecDepth 20000 in
theorem gX8_about_X8_isPeg : GoodIn wsX8_about (wsV RX8 106 RX8 yX8_isPeg wsX8_isPeg) := goodIn_app (goodIn_of _ (by decide +kernel)) ggX8_about_X8_isPeg
theorem dX8_about_0 : decode cX8_about 0 = .ok (.aload_n 0, 1) := by decide +kernel
theorem dX8_about_1 : decode cX8_about 1 = .ok (.iload_n 1, 1) := by decide +kernel
theorem dX8_about_2 : decode cX8_about 2 = .ok (.invokevirtual 106, 3) := by decide +kernel
theorem dX8_about_5 : decode cX8_about 5 = .ok (.ifCond .ne 5, 3) := by decide +kernel
theorem dX8_about_8 : decode cX8_about 8 = .ok (.iconst (-1), 1) := by decide +kernel
theorem dX8_about_9 : decode cX8_about 9 = .ok (.ireturn, 1) := by decide +kernel
theorem dX8_about_10 : decode cX8_about 10 = .ok (.iload_n 2, 1) := by decide +kernel
theorem dX8_about_11 : decode cX8_about 11 = .ok (.tableswitch 78 0 3 #[29, 36, 43, 58], 29) := by decide +kernel
theorem dX8_about_40 : decode cX8_about 40 = .ok (.aload_n 0, 1) := by decide +kernel
theorem dX8_about_41 : decode cX8_about 41 = .ok (.getfield 27, 3) := by decide +kernel
theorem dX8_about_44 : decode cX8_about 44 = .ok (.iload_n 1, 1) := by decide +kernel
theorem dX8_about_45 : decode cX8_about 45 = .ok (.iaload, 1) := by decide +kernel
theorem dX8_about_46 : decode cX8_about 46 = .ok (.ireturn, 1) := by decide +kernel
theorem dX8_about_47 : decode cX8_about 47 = .ok (.aload_n 0, 1) := by decide +kernel
theorem dX8_about_48 : decode cX8_about 48 = .ok (.getfield 30, 3) := by decide +kernel
theorem dX8_about_51 : decode cX8_about 51 = .ok (.iload_n 1, 1) := by decide +kernel
theorem dX8_about_52 : decode cX8_about 52 = .ok (.iaload, 1) := by decide +kernel
theorem dX8_about_53 : decode cX8_about 53 = .ok (.ireturn, 1) := by decide +kernel
theorem dX8_about_54 : decode cX8_about 54 = .ok (.aload_n 0, 1) := by decide +kernel
theorem dX8_about_55 : decode cX8_about 55 = .ok (.getfield 33, 3) := by decide +kernel
theorem dX8_about_58 : decode cX8_about 58 = .ok (.iload_n 1, 1) := by decide +kernel
theorem dX8_about_59 : decode cX8_about 59 = .ok (.baload, 1) := by decide +kernel
theorem dX8_about_60 : decode cX8_about 60 = .ok (.ifCond .eq 7, 3) := by decide +kernel
theorem dX8_about_63 : decode cX8_about 63 = .ok (.iconst 1, 1) := by decide +kernel
theorem dX8_about_64 : decode cX8_about 64 = .ok (.goto 4, 3) := by decide +kernel
theorem dX8_about_67 : decode cX8_about 67 = .ok (.iconst 0, 1) := by decide +kernel
theorem dX8_about_68 : decode cX8_about 68 = .ok (.ireturn, 1) := by decide +kernel
theorem dX8_about_69 : decode cX8_about 69 = .ok (.aload_n 0, 1) := by decide +kernel
theorem dX8_about_70 : decode cX8_about 70 = .ok (.getfield 33, 3) := by decide +kernel
theorem dX8_about_73 : decode cX8_about 73 = .ok (.iload_n 1, 1) := by decide +kernel
theorem dX8_about_74 : decode cX8_about 74 = .ok (.baload, 1) := by decide +kernel
theorem dX8_about_75 : decode cX8_about 75 = .ok (.ifCond .eq 12, 3) := by decide +kernel
theorem dX8_about_78 : decode cX8_about 78 = .ok (.aload_n 0, 1) := by decide +kernel
theorem dX8_about_79 : decode cX8_about 79 = .ok (.getfield 37, 3) := by decide +kernel
theorem dX8_about_82 : decode cX8_about 82 = .ok (.iload_n 1, 1) := by decide +kernel
theorem dX8_about_83 : decode cX8_about 83 = .ok (.iaload, 1) := by decide +kernel
theorem dX8_about_84 : decode cX8_about 84 = .ok (.goto 4, 3) := by decide +kernel
theorem dX8_about_87 : decode cX8_about 87 = .ok (.iconst 0, 1) := by decide +kernel
theorem dX8_about_88 : decode cX8_about 88 = .ok (.ireturn, 1) := by decide +kernel
theorem dX8_about_89 : decode cX8_about 89 = .ok (.sipush (-1000), 3) := by decide +kernel
theorem dX8_about_92 : decode cX8_about 92 = .ok (.ireturn, 1) := by decide +kernel
set_option maxRecDepth 20000 in
theorem ggX8_bow_X8_in : GoodIn wsX8_bow wsX8_in := goodIn_r _ [9] (by decide +kernel) (by decide +kernel)
set_option maxRecDepth 20000 in
theorem gX8_bow_X8_in : GoodIn wsX8_bow (va_wsS RX8 79 yX8_in wsX8_in) := goodIn_app (goodIn_of _ (by decide +kernel)) ggX8_bow_X8_in
theorem dX8_bow_0 : decode cX8_bow 0 = .ok (.iload_n 1, 1) := by decide +kernel
theorem dX8_bow_1 : decode cX8_bow 1 = .ok (.iconst 0, 1) := by decide +kernel
theorem dX8_bow_2 : decode cX8_bow 2 = .ok (.sipush 500, 3) := by decide +kernel
theorem dX8_bow_5 : decode cX8_bow 5 = .ok (.invokestatic 79, 3) := by decide +kernel
theorem dX8_bow_8 : decode cX8_bow 8 = .ok (.ifCond .eq 56, 3) := by decide +kernel
theorem dX8_bow_11 : decode cX8_bow 11 = .ok (.iload_n 2, 1) := by decide +kernel
theorem dX8_bow_12 : decode cX8_bow 12 = .ok (.sipush 1000, 3) := by decide +kernel
theorem dX8_bow_15 : decode cX8_bow 15 = .ok (.sipush 20000, 3) := by decide +kernel
theorem dX8_bow_18 : decode cX8_bow 18 = .ok (.invokestatic 79, 3) := by decide +kernel
theorem dX8_bow_21 : decode cX8_bow 21 = .ok (.ifCond .eq 43, 3) := by decide +kernel
theorem dX8_bow_24 : decode cX8_bow 24 = .ok (.iload_n 3, 1) := by decide +kernel
theorem dX8_bow_25 : decode cX8_bow 25 = .ok (.bipush 100, 2) := by decide +kernel
theorem dX8_bow_27 : decode cX8_bow 27 = .ok (.sipush 1000, 3) := by decide +kernel
theorem dX8_bow_30 : decode cX8_bow 30 = .ok (.invokestatic 79, 3) := by decide +kernel
theorem dX8_bow_33 : decode cX8_bow 33 = .ok (.ifCond .eq 31, 3) := by decide +kernel
theorem dX8_bow_36 : decode cX8_bow 36 = .ok (.iload 4, 2) := by decide +kernel
theorem dX8_bow_38 : decode cX8_bow 38 = .ok (.iconst 0, 1) := by decide +kernel
theorem dX8_bow_39 : decode cX8_bow 39 = .ok (.bipush 99, 2) := by decide +kernel
theorem dX8_bow_41 : decode cX8_bow 41 = .ok (.invokestatic 79, 3) := by decide +kernel
theorem dX8_bow_44 : decode cX8_bow 44 = .ok (.ifCond .eq 20, 3) := by decide +kernel
theorem dX8_bow_47 : decode cX8_bow 47 = .ok (.iload 5, 2) := by decide +kernel
theorem dX8_bow_49 : decode cX8_bow 49 = .ok (.bipush 20, 2) := by decide +kernel
theorem dX8_bow_51 : decode cX8_bow 51 = .ok (.sipush 800, 3) := by decide +kernel
theorem dX8_bow_54 : decode cX8_bow 54 = .ok (.invokestatic 79, 3) := by decide +kernel
theorem dX8_bow_57 : decode cX8_bow 57 = .ok (.ifCond .eq 7, 3) := by decide +kernel
theorem dX8_bow_60 : decode cX8_bow 60 = .ok (.iconst 1, 1) := by decide +kernel
theorem dX8_bow_61 : decode cX8_bow 61 = .ok (.goto 4, 3) := by decide +kernel
theorem dX8_bow_64 : decode cX8_bow 64 = .ok (.iconst 0, 1) := by decide +kernel
theorem dX8_bow_65 : decode cX8_bow 65 = .ok (.istore 6, 2) := by decide +kernel
theorem dX8_bow_67 : decode cX8_bow 67 = .ok (.iload 6, 2) := by decide +kernel
theorem dX8_bow_69 : decode cX8_bow 69 = .ok (.ifCond .eq 9, 3) := by decide +kernel
theorem dX8_bow_72 : decode cX8_bow 72 = .ok (.iload 4, 2) := by decide +kernel
theorem dX8_bow_74 : decode cX8_bow 74 = .ok (.iload_n 3, 1) := by decide +kernel
theorem dX8_bow_75 : decode cX8_bow 75 = .ok (.if_icmp .lt 6, 3) := by decide +kernel
theorem dX8_bow_78 : decode cX8_bow 78 = .ok (.bipush (-2), 2) := by decide +kernel
theorem dX8_bow_80 : decode cX8_bow 80 = .ok (.ireturn, 1) := by decide +kernel
theorem dX8_bow_81 : decode cX8_bow 81 = .ok (.aload_n 0, 1) := by decide +kernel
theorem dX8_bow_82 : decode cX8_bow 82 = .ok (.iload_n 1, 1) := by decide +kernel
theorem dX8_bow_83 : decode cX8_bow 83 = .ok (.putfield 110, 3) := by decide +kernel
theorem dX8_bow_86 : decode cX8_bow 86 = .ok (.aload_n 0, 1) := by decide +kernel
theorem dX8_bow_87 : decode cX8_bow 87 = .ok (.iload_n 2, 1) := by decide +kernel
theorem dX8_bow_88 : decode cX8_bow 88 = .ok (.putfield 40, 3) := by decide +kernel
theorem dX8_bow_91 : decode cX8_bow 91 = .ok (.aload_n 0, 1) := by decide +kernel
theorem dX8_bow_92 : decode cX8_bow 92 = .ok (.iload_n 3, 1) := by decide +kernel
theorem dX8_bow_93 : decode cX8_bow 93 = .ok (.putfield 43, 3) := by decide +kernel
theorem dX8_bow_96 : decode cX8_bow 96 = .ok (.aload_n 0, 1) := by decide +kernel
theorem dX8_bow_97 : decode cX8_bow 97 = .ok (.iload 4, 2) := by decide +kernel
theorem dX8_bow_99 : decode cX8_bow 99 = .ok (.putfield 113, 3) := by decide +kernel
theorem dX8_bow_102 : decode cX8_bow 102 = .ok (.aload_n 0, 1) := by decide +kernel
theorem dX8_bow_103 : decode cX8_bow 103 = .ok (.iload 5, 2) := by decide +kernel
theorem dX8_bow_105 : decode cX8_bow 105 = .ok (.putfield 46, 3) := by decide +kernel
theorem dX8_bow_108 : decode cX8_bow 108 = .ok (.iconst 1, 1) := by decide +kernel
theorem dX8_bow_109 : decode cX8_bow 109 = .ok (.ireturn, 1) := by decide +kernel
theorem dX8_common_0 : decode cX8_common 0 = .ok (.lload_n 0, 1) := by decide +kernel
theorem dX8_common_1 : decode cX8_common 1 = .ok (.lconst 0, 1) := by decide +kernel
theorem dX8_common_2 : decode cX8_common 2 = .ok (.lcmp, 1) := by decide +kernel
theorem dX8_common_3 : decode cX8_common 3 = .ok (.ifCond .ge 8, 3) := by decide +kernel
theorem dX8_common_6 : decode cX8_common 6 = .ok (.lload_n 0, 1) := by decide +kernel
theorem dX8_common_7 : decode cX8_common 7 = .ok (.lneg, 1) := by decide +kernel
theorem dX8_common_8 : decode cX8_common 8 = .ok (.goto 4, 3) := by decide +kernel
theorem dX8_common_11 : decode cX8_common 11 = .ok (.lload_n 0, 1) := by decide +kernel
theorem dX8_common_12 : decode cX8_common 12 = .ok (.lstore 4, 2) := by decide +kernel
theorem dX8_common_14 : decode cX8_common 14 = .ok (.lload_n 2, 1) := by decide +kernel
theorem dX8_common_15 : decode cX8_common 15 = .ok (.lstore 6, 2) := by decide +kernel
theorem dX8_common_17 : decode cX8_common 17 = .ok (.lload 6, 2) := by decide +kernel
theorem dX8_common_19 : decode cX8_common 19 = .ok (.lconst 0, 1) := by decide +kernel
theorem dX8_common_20 : decode cX8_common 20 = .ok (.lcmp, 1) := by decide +kernel
theorem dX8_common_21 : decode cX8_common 21 = .ok (.ifCond .eq 21, 3) := by decide +kernel
theorem dX8_common_24 : decode cX8_common 24 = .ok (.lload 4, 2) := by decide +kernel
theorem dX8_common_26 : decode cX8_common 26 = .ok (.lload 6, 2) := by decide +kernel
theorem dX8_common_28 : decode cX8_common 28 = .ok (.lrem, 1) := by decide +kernel
theorem dX8_common_29 : decode cX8_common 29 = .ok (.lstore 8, 2) := by decide +kernel
theorem dX8_common_31 : decode cX8_common 31 = .ok (.lload 6, 2) := by decide +kernel
theorem dX8_common_33 : decode cX8_common 33 = .ok (.lstore 4, 2) := by decide +kernel
theorem dX8_common_35 : decode cX8_common 35 = .ok (.lload 8, 2) := by decide +kernel
theorem dX8_common_37 : decode cX8_common 37 = .ok (.lstore 6, 2) := by decide +kernel
theorem dX8_common_39 : decode cX8_common 39 = .ok (.goto (-22), 3) := by decide +kernel
theorem dX8_common_42 : decode cX8_common 42 = .ok (.lload 4, 2) := by decide +kernel
theorem dX8_common_44 : decode cX8_common 44 = .ok (.lreturn, 1) := by decide +kernel
set_option maxRecDepth 20000 in
theorem ggX8_part_X8_common : GoodIn wsX8_part wsX8_common := goodIn_r _ [4] (by decide +kernel) (by decide +kernel)
set_option maxRecDepth 20000 in
theorem gX8_part_X8_common : GoodIn wsX8_part (va_wsS RX8 116 yX8_common wsX8_common) := goodIn_app (goodIn_of _ (by decide +kernel)) ggX8_part_X8_common
theorem dX8_part_0 : decode cX8_part 0 = .ok (.lload_n 0, 1) := by decide +kernel
theorem dX8_part_1 : decode cX8_part 1 = .ok (.lload_n 2, 1) := by decide +kernel
theorem dX8_part_2 : decode cX8_part 2 = .ok (.invokestatic 116, 3) := by decide +kernel
theorem dX8_part_5 : decode cX8_part 5 = .ok (.lstore 5, 2) := by decide +kernel
theorem dX8_part_7 : decode cX8_part 7 = .ok (.iload 4, 2) := by decide +kernel
theorem dX8_part_9 : decode cX8_part 9 = .ok (.ifCond .ne 10, 3) := by decide +kernel
theorem dX8_part_12 : decode cX8_part 12 = .ok (.lload_n 0, 1) := by decide +kernel
theorem dX8_part_13 : decode cX8_part 13 = .ok (.lload 5, 2) := by decide +kernel
theorem dX8_part_15 : decode cX8_part 15 = .ok (.ldiv, 1) := by decide +kernel
theorem dX8_part_16 : decode cX8_part 16 = .ok (.goto 7, 3) := by decide +kernel
theorem dX8_part_19 : decode cX8_part 19 = .ok (.lload_n 2, 1) := by decide +kernel
theorem dX8_part_20 : decode cX8_part 20 = .ok (.lload 5, 2) := by decide +kernel
theorem dX8_part_22 : decode cX8_part 22 = .ok (.ldiv, 1) := by decide +kernel
theorem dX8_part_23 : decode cX8_part 23 = .ok (.lreturn, 1) := by decide +kernel
theorem dX8_spanEnd_0 : decode cX8_spanEnd 0 = .ok (.bipush (-6), 2) := by decide +kernel
theorem dX8_spanEnd_2 : decode cX8_spanEnd 2 = .ok (.istore_n 2, 1) := by decide +kernel
theorem dX8_spanEnd_3 : decode cX8_spanEnd 3 = .ok (.iconst 0, 1) := by decide +kernel
theorem dX8_spanEnd_4 : decode cX8_spanEnd 4 = .ok (.istore_n 3, 1) := by decide +kernel
theorem dX8_spanEnd_5 : decode cX8_spanEnd 5 = .ok (.iload_n 3, 1) := by decide +kernel
theorem dX8_spanEnd_6 : decode cX8_spanEnd 6 = .ok (.aload_n 0, 1) := by decide +kernel
theorem dX8_spanEnd_7 : decode cX8_spanEnd 7 = .ok (.getfield 83, 3) := by decide +kernel
theorem dX8_spanEnd_10 : decode cX8_spanEnd 10 = .ok (.if_icmp .ge 46, 3) := by decide +kernel
theorem dX8_spanEnd_13 : decode cX8_spanEnd 13 = .ok (.aload_n 0, 1) := by decide +kernel
theorem dX8_spanEnd_14 : decode cX8_spanEnd 14 = .ok (.getfield 33, 3) := by decide +kernel
theorem dX8_spanEnd_17 : decode cX8_spanEnd 17 = .ok (.iload_n 3, 1) := by decide +kernel
theorem dX8_spanEnd_18 : decode cX8_spanEnd 18 = .ok (.baload, 1) := by decide +kernel
theorem dX8_spanEnd_19 : decode cX8_spanEnd 19 = .ok (.ifCond .eq 31, 3) := by decide +kernel
theorem dX8_spanEnd_22 : decode cX8_spanEnd 22 = .ok (.iload_n 2, 1) := by decide +kernel
theorem dX8_spanEnd_23 : decode cX8_spanEnd 23 = .ok (.ifCond .lt 25, 3) := by decide +kernel
theorem dX8_spanEnd_26 : decode cX8_spanEnd 26 = .ok (.iload_n 1, 1) := by decide +kernel
theorem dX8_spanEnd_27 : decode cX8_spanEnd 27 = .ok (.aload_n 0, 1) := by decide +kernel
theorem dX8_spanEnd_28 : decode cX8_spanEnd 28 = .ok (.getfield 27, 3) := by decide +kernel
theorem dX8_spanEnd_31 : decode cX8_spanEnd 31 = .ok (.iload_n 2, 1) := by decide +kernel
theorem dX8_spanEnd_32 : decode cX8_spanEnd 32 = .ok (.iaload, 1) := by decide +kernel
theorem dX8_spanEnd_33 : decode cX8_spanEnd 33 = .ok (.if_icmp .lt 15, 3) := by decide +kernel
theorem dX8_spanEnd_36 : decode cX8_spanEnd 36 = .ok (.iload_n 1, 1) := by decide +kernel
theorem dX8_spanEnd_37 : decode cX8_spanEnd 37 = .ok (.aload_n 0, 1) := by decide +kernel
theorem dX8_spanEnd_38 : decode cX8_spanEnd 38 = .ok (.getfield 27, 3) := by decide +kernel
theorem dX8_spanEnd_41 : decode cX8_spanEnd 41 = .ok (.iload_n 3, 1) := by decide +kernel
theorem dX8_spanEnd_42 : decode cX8_spanEnd 42 = .ok (.iaload, 1) := by decide +kernel
theorem dX8_spanEnd_43 : decode cX8_spanEnd 43 = .ok (.if_icmp .gt 5, 3) := by decide +kernel
theorem dX8_spanEnd_46 : decode cX8_spanEnd 46 = .ok (.iload_n 3, 1) := by decide +kernel
theorem dX8_spanEnd_47 : decode cX8_spanEnd 47 = .ok (.ireturn, 1) := by decide +kernel
theorem dX8_spanEnd_48 : decode cX8_spanEnd 48 = .ok (.iload_n 3, 1) := by decide +kernel
theorem dX8_spanEnd_49 : decode cX8_spanEnd 49 = .ok (.istore_n 2, 1) := by decide +kernel
theorem dX8_spanEnd_50 : decode cX8_spanEnd 50 = .ok (.iinc 3 1, 3) := by decide +kernel
theorem dX8_spanEnd_53 : decode cX8_spanEnd 53 = .ok (.goto (-48), 3) := by decide +kernel
theorem dX8_spanEnd_56 : decode cX8_spanEnd 56 = .ok (.bipush (-6), 2) := by decide +kernel
theorem dX8_spanEnd_58 : decode cX8_spanEnd 58 = .ok (.ireturn, 1) := by decide +kernel
theorem dX8_mastBefore_0 : decode cX8_mastBefore 0 = .ok (.iload_n 1, 1) := by decide +kernel
theorem dX8_mastBefore_1 : decode cX8_mastBefore 1 = .ok (.iconst 1, 1) := by decide +kernel
theorem dX8_mastBefore_2 : decode cX8_mastBefore 2 = .ok (.isub, 1) := by decide +kernel
theorem dX8_mastBefore_3 : decode cX8_mastBefore 3 = .ok (.istore_n 2, 1) := by decide +kernel
theorem dX8_mastBefore_4 : decode cX8_mastBefore 4 = .ok (.aload_n 0, 1) := by decide +kernel
theorem dX8_mastBefore_5 : decode cX8_mastBefore 5 = .ok (.getfield 33, 3) := by decide +kernel
theorem dX8_mastBefore_8 : decode cX8_mastBefore 8 = .ok (.iload_n 2, 1) := by decide +kernel
theorem dX8_mastBefore_9 : decode cX8_mastBefore 9 = .ok (.baload, 1) := by decide +kernel
theorem dX8_mastBefore_10 : decode cX8_mastBefore 10 = .ok (.ifCond .ne 9, 3) := by decide +kernel
theorem dX8_mastBefore_13 : decode cX8_mastBefore 13 = .ok (.iinc 2 (-1), 3) := by decide +kernel
theorem dX8_mastBefore_16 : decode cX8_mastBefore 16 = .ok (.goto (-12), 3) := by decide +kernel
theorem dX8_mastBefore_19 : decode cX8_mastBefore 19 = .ok (.iload_n 2, 1) := by decide +kernel
theorem dX8_mastBefore_20 : decode cX8_mastBefore 20 = .ok (.ireturn, 1) := by decide +kernel
set_option maxRecDepth 20000 in
theorem ggX8_offTimes_X8_asideAt : GoodIn wsX8_offTimes wsX8_asideAt := goodIn_r _ [6, 7, 8, 9, 10, 11, 12, 13, 14, 15, 5, 16, 17, 18, 19, 20, 21, 22, 23, 24, 25, 26, 27, 28, 29, 30, 31, 32, 33, 34, 35, 36, 37, 38, 39, 40, 41, 42, 43] (by decide +kernel) (by decide +kernel)
set_option maxRecDepth 20000 in
theorem gX8_offTimes_X8_asideAt : GoodIn wsX8_offTimes (wsV RX8 97 RX8 yX8_asideAt wsX8_asideAt) := goodIn_app (goodIn_of _ (by decide +kernel)) ggX8_offTimes_X8_asideAt
theorem dX8_offTimes_0 : decode cX8_offTimes 0 = .ok (.aload_n 0, 1) := by decide +kernel
theorem dX8_offTimes_1 : decode cX8_offTimes 1 = .ok (.iload_n 1, 1) := by decide +kernel
theorem dX8_offTimes_2 : decode cX8_offTimes 2 = .ok (.invokevirtual 97, 3) := by decide +kernel
theorem dX8_offTimes_5 : decode cX8_offTimes 5 = .ok (.ldc2_w 120, 3) := by decide +kernel
theorem dX8_offTimes_8 : decode cX8_offTimes 8 = .ok (.iload_n 2, 1) := by decide +kernel
theorem dX8_offTimes_9 : decode cX8_offTimes 9 = .ok (.i2l, 1) := by decide +kernel
theorem dX8_offTimes_10 : decode cX8_offTimes 10 = .ok (.lmul, 1) := by decide +kernel
theorem dX8_offTimes_11 : decode cX8_offTimes 11 = .ok (.ladd, 1) := by decide +kernel
theorem dX8_offTimes_12 : decode cX8_offTimes 12 = .ok (.lstore 6, 2) := by decide +kernel
theorem dX8_offTimes_14 : decode cX8_offTimes 14 = .ok (.aload_n 0, 1) := by decide +kernel
theorem dX8_offTimes_15 : decode cX8_offTimes 15 = .ok (.iload_n 3, 1) := by decide +kernel
theorem dX8_offTimes_16 : decode cX8_offTimes 16 = .ok (.invokevirtual 97, 3) := by decide +kernel
theorem dX8_offTimes_19 : decode cX8_offTimes 19 = .ok (.ldc2_w 120, 3) := by decide +kernel
theorem dX8_offTimes_22 : decode cX8_offTimes 22 = .ok (.iload 4, 2) := by decide +kernel
theorem dX8_offTimes_24 : decode cX8_offTimes 24 = .ok (.i2l, 1) := by decide +kernel
theorem dX8_offTimes_25 : decode cX8_offTimes 25 = .ok (.lmul, 1) := by decide +kernel
theorem dX8_offTimes_26 : decode cX8_offTimes 26 = .ok (.ladd, 1) := by decide +kernel
theorem dX8_offTimes_27 : decode cX8_offTimes 27 = .ok (.lstore 8, 2) := by decide +kernel
theorem dX8_offTimes_29 : decode cX8_offTimes 29 = .ok (.iload_n 3, 1) := by decide +kernel
theorem dX8_offTimes_30 : decode cX8_offTimes 30 = .ok (.iload_n 1, 1) := by decide +kernel
theorem dX8_offTimes_31 : decode cX8_offTimes 31 = .ok (.isub, 1) := by decide +kernel
theorem dX8_offTimes_32 : decode cX8_offTimes 32 = .ok (.i2l, 1) := by decide +kernel
theorem dX8_offTimes_33 : decode cX8_offTimes 33 = .ok (.lstore 10, 2) := by decide +kernel
theorem dX8_offTimes_35 : decode cX8_offTimes 35 = .ok (.lload 6, 2) := by decide +kernel
theorem dX8_offTimes_37 : decode cX8_offTimes 37 = .ok (.lload 10, 2) := by decide +kernel
theorem dX8_offTimes_39 : decode cX8_offTimes 39 = .ok (.lmul, 1) := by decide +kernel
theorem dX8_offTimes_40 : decode cX8_offTimes 40 = .ok (.lload 8, 2) := by decide +kernel
theorem dX8_offTimes_42 : decode cX8_offTimes 42 = .ok (.lload 6, 2) := by decide +kernel
theorem dX8_offTimes_44 : decode cX8_offTimes 44 = .ok (.lsub, 1) := by decide +kernel
theorem dX8_offTimes_45 : decode cX8_offTimes 45 = .ok (.iload 5, 2) := by decide +kernel
theorem dX8_offTimes_47 : decode cX8_offTimes 47 = .ok (.iload_n 1, 1) := by decide +kernel
theorem dX8_offTimes_48 : decode cX8_offTimes 48 = .ok (.isub, 1) := by decide +kernel
theorem dX8_offTimes_49 : decode cX8_offTimes 49 = .ok (.i2l, 1) := by decide +kernel
theorem dX8_offTimes_50 : decode cX8_offTimes 50 = .ok (.lmul, 1) := by decide +kernel
theorem dX8_offTimes_51 : decode cX8_offTimes 51 = .ok (.ladd, 1) := by decide +kernel
theorem dX8_offTimes_52 : decode cX8_offTimes 52 = .ok (.aload_n 0, 1) := by decide +kernel
theorem dX8_offTimes_53 : decode cX8_offTimes 53 = .ok (.iload 5, 2) := by decide +kernel
theorem dX8_offTimes_55 : decode cX8_offTimes 55 = .ok (.invokevirtual 97, 3) := by decide +kernel
theorem dX8_offTimes_58 : decode cX8_offTimes 58 = .ok (.lload 10, 2) := by decide +kernel
theorem dX8_offTimes_60 : decode cX8_offTimes 60 = .ok (.lmul, 1) := by decide +kernel
theorem dX8_offTimes_61 : decode cX8_offTimes 61 = .ok (.lsub, 1) := by decide +kernel
theorem dX8_offTimes_62 : decode cX8_offTimes 62 = .ok (.lreturn, 1) := by decide +kernel
set_option maxRecDepth 20000 in
theorem ggX8_isKept_X8_offTimes : GoodIn wsX8_isKept wsX8_offTimes := goodIn_r _ [10, 2, 11, 12, 13, 9, 14, 15, 16, 17, 18, 19, 20, 21, 22, 23, 24, 25, 26, 27, 28, 29, 30, 31, 32, 33, 34, 35, 36, 37, 38, 39, 40, 41, 42, 43, 44, 45, 46, 47, 48, 49, 50, 51] (by decide +kernel) (by decide +kernel)
set_option maxRecDepth 20000 in
theorem gX8_isKept_X8_offTimes : GoodIn wsX8_isKept (wsV RX8 122 RX8 yX8_offTimes wsX8_offTimes) := goodIn_app (goodIn_of _ (by decide +kernel)) ggX8_isKept_X8_offTimes
theorem dX8_isKept_0 : decode cX8_isKept 0 = .ok (.iload_n 3, 1) := by decide +kernel
theorem dX8_isKept_1 : decode cX8_isKept 1 = .ok (.iload_n 1, 1) := by decide +kernel
theorem dX8_isKept_2 : decode cX8_isKept 2 = .ok (.isub, 1) := by decide +kernel
theorem dX8_isKept_3 : decode cX8_isKept 3 = .ok (.i2l, 1) := by decide +kernel
theorem dX8_isKept_4 : decode cX8_isKept 4 = .ok (.lstore 6, 2) := by decide +kernel
theorem dX8_isKept_6 : decode cX8_isKept 6 = .ok (.aload_n 0, 1) := by decide +kernel
theorem dX8_isKept_7 : decode cX8_isKept 7 = .ok (.iload_n 1, 1) := by decide +kernel
theorem dX8_isKept_8 : decode cX8_isKept 8 = .ok (.iload_n 2, 1) := by decide +kernel
theorem dX8_isKept_9 : decode cX8_isKept 9 = .ok (.iload_n 3, 1) := by decide +kernel
theorem dX8_isKept_10 : decode cX8_isKept 10 = .ok (.iload 4, 2) := by decide +kernel
theorem dX8_isKept_12 : decode cX8_isKept 12 = .ok (.iload 5, 2) := by decide +kernel
theorem dX8_isKept_14 : decode cX8_isKept 14 = .ok (.invokevirtual 122, 3) := by decide +kernel
theorem dX8_isKept_17 : decode cX8_isKept 17 = .ok (.lstore 8, 2) := by decide +kernel
theorem dX8_isKept_19 : decode cX8_isKept 19 = .ok (.aload_n 0, 1) := by decide +kernel
theorem dX8_isKept_20 : decode cX8_isKept 20 = .ok (.getfield 110, 3) := by decide +kernel
theorem dX8_isKept_23 : decode cX8_isKept 23 = .ok (.i2l, 1) := by decide +kernel
theorem dX8_isKept_24 : decode cX8_isKept 24 = .ok (.iload 5, 2) := by decide +kernel
theorem dX8_isKept_26 : decode cX8_isKept 26 = .ok (.iload_n 1, 1) := by decide +kernel
theorem dX8_isKept_27 : decode cX8_isKept 27 = .ok (.isub, 1) := by decide +kernel
theorem dX8_isKept_28 : decode cX8_isKept 28 = .ok (.i2l, 1) := by decide +kernel
theorem dX8_isKept_29 : decode cX8_isKept 29 = .ok (.lmul, 1) := by decide +kernel
theorem dX8_isKept_30 : decode cX8_isKept 30 = .ok (.iload_n 3, 1) := by decide +kernel
theorem dX8_isKept_31 : decode cX8_isKept 31 = .ok (.iload 5, 2) := by decide +kernel
theorem dX8_isKept_33 : decode cX8_isKept 33 = .ok (.isub, 1) := by decide +kernel
theorem dX8_isKept_34 : decode cX8_isKept 34 = .ok (.i2l, 1) := by decide +kernel
theorem dX8_isKept_35 : decode cX8_isKept 35 = .ok (.lmul, 1) := by decide +kernel
theorem dX8_isKept_36 : decode cX8_isKept 36 = .ok (.lstore 10, 2) := by decide +kernel
theorem dX8_isKept_38 : decode cX8_isKept 38 = .ok (.ldc2_w 120, 3) := by decide +kernel
theorem dX8_isKept_41 : decode cX8_isKept 41 = .ok (.aload_n 0, 1) := by decide +kernel
theorem dX8_isKept_42 : decode cX8_isKept 42 = .ok (.getfield 43, 3) := by decide +kernel
theorem dX8_isKept_45 : decode cX8_isKept 45 = .ok (.aload_n 0, 1) := by decide +kernel
theorem dX8_isKept_46 : decode cX8_isKept 46 = .ok (.getfield 113, 3) := by decide +kernel
theorem dX8_isKept_49 : decode cX8_isKept 49 = .ok (.isub, 1) := by decide +kernel
theorem dX8_isKept_50 : decode cX8_isKept 50 = .ok (.i2l, 1) := by decide +kernel
theorem dX8_isKept_51 : decode cX8_isKept 51 = .ok (.lmul, 1) := by decide +kernel
theorem dX8_isKept_52 : decode cX8_isKept 52 = .ok (.lstore 12, 2) := by decide +kernel
theorem dX8_isKept_54 : decode cX8_isKept 54 = .ok (.lload 8, 2) := by decide +kernel
theorem dX8_isKept_56 : decode cX8_isKept 56 = .ok (.lconst 0, 1) := by decide +kernel
theorem dX8_isKept_57 : decode cX8_isKept 57 = .ok (.lcmp, 1) := by decide +kernel
theorem dX8_isKept_58 : decode cX8_isKept 58 = .ok (.ifCond .ge 9, 3) := by decide +kernel
theorem dX8_isKept_61 : decode cX8_isKept 61 = .ok (.lload 8, 2) := by decide +kernel
theorem dX8_isKept_63 : decode cX8_isKept 63 = .ok (.lneg, 1) := by decide +kernel
theorem dX8_isKept_64 : decode cX8_isKept 64 = .ok (.goto 5, 3) := by decide +kernel
theorem dX8_isKept_67 : decode cX8_isKept 67 = .ok (.lload 8, 2) := by decide +kernel
theorem dX8_isKept_69 : decode cX8_isKept 69 = .ok (.aload_n 0, 1) := by decide +kernel
theorem dX8_isKept_70 : decode cX8_isKept 70 = .ok (.getfield 40, 3) := by decide +kernel
theorem dX8_isKept_73 : decode cX8_isKept 73 = .ok (.i2l, 1) := by decide +kernel
theorem dX8_isKept_74 : decode cX8_isKept 74 = .ok (.lmul, 1) := by decide +kernel
theorem dX8_isKept_75 : decode cX8_isKept 75 = .ok (.lload 10, 2) := by decide +kernel
theorem dX8_isKept_77 : decode cX8_isKept 77 = .ok (.lload 6, 2) := by decide +kernel
theorem dX8_isKept_79 : decode cX8_isKept 79 = .ok (.lmul, 1) := by decide +kernel
theorem dX8_isKept_80 : decode cX8_isKept 80 = .ok (.ladd, 1) := by decide +kernel
theorem dX8_isKept_81 : decode cX8_isKept 81 = .ok (.lload 12, 2) := by decide +kernel
theorem dX8_isKept_83 : decode cX8_isKept 83 = .ok (.lload 6, 2) := by decide +kernel
theorem dX8_isKept_85 : decode cX8_isKept 85 = .ok (.lmul, 1) := by decide +kernel
theorem dX8_isKept_86 : decode cX8_isKept 86 = .ok (.aload_n 0, 1) := by decide +kernel
theorem dX8_isKept_87 : decode cX8_isKept 87 = .ok (.getfield 40, 3) := by decide +kernel
theorem dX8_isKept_90 : decode cX8_isKept 90 = .ok (.i2l, 1) := by decide +kernel
theorem dX8_isKept_91 : decode cX8_isKept 91 = .ok (.lmul, 1) := by decide +kernel
theorem dX8_isKept_92 : decode cX8_isKept 92 = .ok (.lcmp, 1) := by decide +kernel
theorem dX8_isKept_93 : decode cX8_isKept 93 = .ok (.ifCond .gt 7, 3) := by decide +kernel
theorem dX8_isKept_96 : decode cX8_isKept 96 = .ok (.iconst 1, 1) := by decide +kernel
theorem dX8_isKept_97 : decode cX8_isKept 97 = .ok (.goto 4, 3) := by decide +kernel
theorem dX8_isKept_100 : decode cX8_isKept 100 = .ok (.iconst 0, 1) := by decide +kernel
theorem dX8_isKept_101 : decode cX8_isKept 101 = .ok (.ireturn, 1) := by decide +kernel
set_option maxRecDepth 20000 in
theorem ggX8_isSpanKept_X8_isKept : GoodIn wsX8_isSpanKept wsX8_isKept := goodIn_r _ [6, 7, 8, 9, 10, 11, 12, 13, 14, 5, 15, 16, 17, 18, 19, 20, 21, 22, 23, 24, 25, 26, 27, 28, 29, 30, 31, 32, 33, 34, 35, 36, 37, 38, 39, 40, 41, 42, 43, 44, 45, 46, 47, 48, 49, 50, 51, 52, 53, 54, 55, 56] (by decide +kernel) (by decide +kernel)
set_option maxRecDepth 20000 in
theorem gX8_isSpanKept_X8_isKept : GoodIn wsX8_isSpanKept (wsV RX8 126 RX8 yX8_isKept wsX8_isKept) := goodIn_app (goodIn_of _ (by decide +kernel)) ggX8_isSpanKept_X8_isKept
theorem dX8_isSpanKept_0 : decode cX8_isSpanKept 0 = .ok (.iload_n 3, 1) := by decide +kernel
theorem dX8_isSpanKept_1 : decode cX8_isSpanKept 1 = .ok (.iload_n 1, 1) := by decide +kernel
theorem dX8_isSpanKept_2 : decode cX8_isSpanKept 2 = .ok (.isub, 1) := by decide +kernel
theorem dX8_isSpanKept_3 : decode cX8_isSpanKept 3 = .ok (.aload_n 0, 1) := by decide +kernel
theorem dX8_isSpanKept_4 : decode cX8_isSpanKept 4 = .ok (.getfield 46, 3) := by decide +kernel
theorem dX8_isSpanKept_7 : decode cX8_isSpanKept 7 = .ok (.if_icmp .le 5, 3) := by decide +kernel
theorem dX8_isSpanKept_10 : decode cX8_isSpanKept 10 = .ok (.iconst 0, 1) := by decide +kernel
theorem dX8_isSpanKept_11 : decode cX8_isSpanKept 11 = .ok (.ireturn, 1) := by decide +kernel
theorem dX8_isSpanKept_12 : decode cX8_isSpanKept 12 = .ok (.iload_n 1, 1) := by decide +kernel
theorem dX8_isSpanKept_13 : decode cX8_isSpanKept 13 = .ok (.istore 5, 2) := by decide +kernel
theorem dX8_isSpanKept_15 : decode cX8_isSpanKept 15 = .ok (.iload 5, 2) := by decide +kernel
theorem dX8_isSpanKept_17 : decode cX8_isSpanKept 17 = .ok (.iload_n 3, 1) := by decide +kernel
theorem dX8_isSpanKept_18 : decode cX8_isSpanKept 18 = .ok (.if_icmp .gt 25, 3) := by decide +kernel
theorem dX8_isSpanKept_21 : decode cX8_isSpanKept 21 = .ok (.aload_n 0, 1) := by decide +kernel
theorem dX8_isSpanKept_22 : decode cX8_isSpanKept 22 = .ok (.iload_n 1, 1) := by decide +kernel
theorem dX8_isSpanKept_23 : decode cX8_isSpanKept 23 = .ok (.iload_n 2, 1) := by decide +kernel
theorem dX8_isSpanKept_24 : decode cX8_isSpanKept 24 = .ok (.iload_n 3, 1) := by decide +kernel
theorem dX8_isSpanKept_25 : decode cX8_isSpanKept 25 = .ok (.iload 4, 2) := by decide +kernel
theorem dX8_isSpanKept_27 : decode cX8_isSpanKept 27 = .ok (.iload 5, 2) := by decide +kernel
theorem dX8_isSpanKept_29 : decode cX8_isSpanKept 29 = .ok (.invokevirtual 126, 3) := by decide +kernel
theorem dX8_isSpanKept_32 : decode cX8_isSpanKept 32 = .ok (.ifCond .ne 5, 3) := by decide +kernel
theorem dX8_isSpanKept_35 : decode cX8_isSpanKept 35 = .ok (.iconst 0, 1) := by decide +kernel
theorem dX8_isSpanKept_36 : decode cX8_isSpanKept 36 = .ok (.ireturn, 1) := by decide +kernel
theorem dX8_isSpanKept_37 : decode cX8_isSpanKept 37 = .ok (.iinc 5 1, 3) := by decide +kernel
theorem dX8_isSpanKept_40 : decode cX8_isSpanKept 40 = .ok (.goto (-25), 3) := by decide +kernel
theorem dX8_isSpanKept_43 : decode cX8_isSpanKept 43 = .ok (.iconst 1, 1) := by decide +kernel
theorem dX8_isSpanKept_44 : decode cX8_isSpanKept 44 = .ok (.ireturn, 1) := by decide +kernel
set_option maxRecDepth 20000 in
theorem ggX8_off_X8_spanEnd : GoodIn wsX8_off wsX8_spanEnd := goodIn_r _ [9, 10, 11, 3, 44, 45, 46, 47, 48, 49, 50, 51, 52, 53, 54, 55, 56, 57, 58, 59, 60, 61, 62, 63, 64, 65, 66, 67, 68, 69, 70] (by decide +kernel) (by decide +kernel)
set_option maxRecDepth 20000 in
theorem gX8_off_X8_spanEnd : GoodIn wsX8_off (wsV RX8 130 RX8 yX8_spanEnd wsX8_spanEnd) := goodIn_app (goodIn_of _ (by decide +kernel)) ggX8_off_X8_spanEnd
set_option maxRecDepth 20000 in
theorem ggX8_off_X8_in : GoodIn wsX8_off wsX8_in := goodIn_r _ [14] (by decide +kernel) (by decide +kernel)
set_option maxRecDepth 20000 in
theorem gX8_off_X8_in : GoodIn wsX8_off (va_wsS RX8 79 yX8_in wsX8_in) := goodIn_app (goodIn_of _ (by decide +kernel)) ggX8_off_X8_in
set_option maxRecDepth 20000 in
theorem ggX8_off_X8_mastBefore : GoodIn wsX8_off wsX8_mastBefore := goodIn_r _ [18, 11, 44, 45, 46, 47, 48, 49, 50, 51, 52, 53, 54, 55, 56, 57, 58, 59, 60, 61, 62, 63, 64, 65, 66, 67, 68, 69, 70] (by decide +kernel) (by decide +kernel)
set_option maxRecDepth 20000 in
theorem gX8_off_X8_mastBefore : GoodIn wsX8_off (wsV RX8 136 RX8 yX8_mastBefore wsX8_mastBefore) := goodIn_app (goodIn_of _ (by decide +kernel)) ggX8_off_X8_mastBefore
set_option maxRecDepth 20000 in
theorem ggX8_off_X8_offTimes : GoodIn wsX8_off wsX8_offTimes := goodIn_r _ [22, 23, 24, 25, 26, 8, 27, 28, 29, 30, 31, 32, 33, 34, 35, 36, 37, 44, 45, 46, 47, 48, 49, 50, 51, 52, 53, 54, 55, 56, 57, 58, 59, 60, 61, 62, 63, 64, 65, 66, 67, 68, 69, 70] (by decide +kernel) (by decide +kernel)
set_option maxRecDepth 20000 in
theorem gX8_off_X8_offTimes : GoodIn wsX8_off (wsV RX8 122 RX8 yX8_offTimes wsX8_offTimes) := goodIn_app (goodIn_of _ (by decide +kernel)) ggX8_off_X8_offTimes
set_option maxRecDepth 20000 in
theorem ggX8_off_X8_part : GoodIn wsX8_off wsX8_part := goodIn_r _ [40, 41, 42, 8, 43] (by decide +kernel) (by decide +kernel)
set_option maxRecDepth 20000 in
theorem gX8_off_X8_part : GoodIn wsX8_off (va_wsS RX8 139 yX8_part wsX8_part) := goodIn_app (goodIn_of _ (by decide +kernel)) ggX8_off_X8_part
theorem dX8_off_0 : decode cX8_off 0 = .ok (.aload_n 0, 1) := by decide +kernel
theorem dX8_off_1 : decode cX8_off 1 = .ok (.iload_n 1, 1) := by decide +kernel
theorem dX8_off_2 : decode cX8_off 2 = .ok (.invokevirtual 130, 3) := by decide +kernel
theorem dX8_off_5 : decode cX8_off 5 = .ok (.istore_n 3, 1) := by decide +kernel
theorem dX8_off_6 : decode cX8_off 6 = .ok (.iload_n 3, 1) := by decide +kernel
theorem dX8_off_7 : decode cX8_off 7 = .ok (.ifCond .ge 7, 3) := by decide +kernel
theorem dX8_off_10 : decode cX8_off 10 = .ok (.ldc2_w 100, 3) := by decide +kernel
theorem dX8_off_13 : decode cX8_off 13 = .ok (.lreturn, 1) := by decide +kernel
theorem dX8_off_14 : decode cX8_off 14 = .ok (.iload_n 2, 1) := by decide +kernel
theorem dX8_off_15 : decode cX8_off 15 = .ok (.iconst 0, 1) := by decide +kernel
theorem dX8_off_16 : decode cX8_off 16 = .ok (.iconst 1, 1) := by decide +kernel
theorem dX8_off_17 : decode cX8_off 17 = .ok (.invokestatic 79, 3) := by decide +kernel
theorem dX8_off_20 : decode cX8_off 20 = .ok (.ifCond .ne 7, 3) := by decide +kernel
theorem dX8_off_23 : decode cX8_off 23 = .ok (.ldc2_w 134, 3) := by decide +kernel
theorem dX8_off_26 : decode cX8_off 26 = .ok (.lreturn, 1) := by decide +kernel
theorem dX8_off_27 : decode cX8_off 27 = .ok (.aload_n 0, 1) := by decide +kernel
theorem dX8_off_28 : decode cX8_off 28 = .ok (.iload_n 3, 1) := by decide +kernel
theorem dX8_off_29 : decode cX8_off 29 = .ok (.invokevirtual 136, 3) := by decide +kernel
theorem dX8_off_32 : decode cX8_off 32 = .ok (.istore 4, 2) := by decide +kernel
theorem dX8_off_34 : decode cX8_off 34 = .ok (.aload_n 0, 1) := by decide +kernel
theorem dX8_off_35 : decode cX8_off 35 = .ok (.aload_n 0, 1) := by decide +kernel
theorem dX8_off_36 : decode cX8_off 36 = .ok (.getfield 27, 3) := by decide +kernel
theorem dX8_off_39 : decode cX8_off 39 = .ok (.iload 4, 2) := by decide +kernel
theorem dX8_off_41 : decode cX8_off 41 = .ok (.iaload, 1) := by decide +kernel
theorem dX8_off_42 : decode cX8_off 42 = .ok (.aload_n 0, 1) := by decide +kernel
theorem dX8_off_43 : decode cX8_off 43 = .ok (.getfield 37, 3) := by decide +kernel
theorem dX8_off_46 : decode cX8_off 46 = .ok (.iload 4, 2) := by decide +kernel
theorem dX8_off_48 : decode cX8_off 48 = .ok (.iaload, 1) := by decide +kernel
theorem dX8_off_49 : decode cX8_off 49 = .ok (.aload_n 0, 1) := by decide +kernel
theorem dX8_off_50 : decode cX8_off 50 = .ok (.getfield 27, 3) := by decide +kernel
theorem dX8_off_53 : decode cX8_off 53 = .ok (.iload_n 3, 1) := by decide +kernel
theorem dX8_off_54 : decode cX8_off 54 = .ok (.iaload, 1) := by decide +kernel
theorem dX8_off_55 : decode cX8_off 55 = .ok (.aload_n 0, 1) := by decide +kernel
theorem dX8_off_56 : decode cX8_off 56 = .ok (.getfield 37, 3) := by decide +kernel
theorem dX8_off_59 : decode cX8_off 59 = .ok (.iload_n 3, 1) := by decide +kernel
theorem dX8_off_60 : decode cX8_off 60 = .ok (.iaload, 1) := by decide +kernel
theorem dX8_off_61 : decode cX8_off 61 = .ok (.iload_n 1, 1) := by decide +kernel
theorem dX8_off_62 : decode cX8_off 62 = .ok (.invokevirtual 122, 3) := by decide +kernel
theorem dX8_off_65 : decode cX8_off 65 = .ok (.aload_n 0, 1) := by decide +kernel
theorem dX8_off_66 : decode cX8_off 66 = .ok (.getfield 27, 3) := by decide +kernel
theorem dX8_off_69 : decode cX8_off 69 = .ok (.iload_n 3, 1) := by decide +kernel
theorem dX8_off_70 : decode cX8_off 70 = .ok (.iaload, 1) := by decide +kernel
theorem dX8_off_71 : decode cX8_off 71 = .ok (.aload_n 0, 1) := by decide +kernel
theorem dX8_off_72 : decode cX8_off 72 = .ok (.getfield 27, 3) := by decide +kernel
theorem dX8_off_75 : decode cX8_off 75 = .ok (.iload 4, 2) := by decide +kernel
theorem dX8_off_77 : decode cX8_off 77 = .ok (.iaload, 1) := by decide +kernel
theorem dX8_off_78 : decode cX8_off 78 = .ok (.isub, 1) := by decide +kernel
theorem dX8_off_79 : decode cX8_off 79 = .ok (.i2l, 1) := by decide +kernel
theorem dX8_off_80 : decode cX8_off 80 = .ok (.iload_n 2, 1) := by decide +kernel
theorem dX8_off_81 : decode cX8_off 81 = .ok (.invokestatic 139, 3) := by decide +kernel
theorem dX8_off_84 : decode cX8_off 84 = .ok (.lreturn, 1) := by decide +kernel
set_option maxRecDepth 20000 in
theorem ggX8_isKeptAt_X8_mastBefore : GoodIn wsX8_isKeptAt wsX8_mastBefore := goodIn_r _ [7, 8, 36, 37, 38, 39, 40, 41, 42, 43, 44, 45, 46, 47, 48, 49, 50, 51, 52, 53, 54, 55, 56, 57, 58, 59, 60, 61, 62] (by decide +kernel) (by decide +kernel)
set_option maxRecDepth 20000 in
theorem gX8_isKeptAt_X8_mastBefore : GoodIn wsX8_isKeptAt (wsV RX8 136 RX8 yX8_mastBefore wsX8_mastBefore) := goodIn_app (goodIn_of _ (by decide +kernel)) ggX8_isKeptAt_X8_mastBefore
set_option maxRecDepth 20000 in
theorem ggX8_isKeptAt_X8_isKept : GoodIn wsX8_isKeptAt wsX8_isKept := goodIn_r _ [12, 13, 14, 15, 16, 17, 18, 19, 20, 6, 21, 22, 23, 24, 25, 26, 27, 28, 29, 30, 31, 32, 33, 34, 35, 36, 37, 38, 39, 40, 41, 42, 43, 44, 45, 46, 47, 48, 49, 50, 51, 52, 53, 54, 55, 56, 57, 58, 59, 60, 61, 62] (by decide +kernel) (by decide +kernel)
set_option maxRecDepth 20000 in
theorem gX8_isKeptAt_X8_isKept : GoodIn wsX8_isKeptAt (wsV RX8 126 RX8 yX8_isKept wsX8_isKept) := goodIn_app (goodIn_of _ (by decide +kernel)) ggX8_isKeptAt_X8_isKept
theorem dX8_isKeptAt_0 : decode cX8_isKeptAt 0 = .ok (.aload_n 0, 1) := by decide +kernel
theorem dX8_isKeptAt_1 : decode cX8_isKeptAt 1 = .ok (.iload_n 2, 1) := by decide +kernel
theorem dX8_isKeptAt_2 : decode cX8_isKeptAt 2 = .ok (.invokevirtual 136, 3) := by decide +kernel
theorem dX8_isKeptAt_5 : decode cX8_isKeptAt 5 = .ok (.istore_n 3, 1) := by decide +kernel
theorem dX8_isKeptAt_6 : decode cX8_isKeptAt 6 = .ok (.aload_n 0, 1) := by decide +kernel
theorem dX8_isKeptAt_7 : decode cX8_isKeptAt 7 = .ok (.aload_n 0, 1) := by decide +kernel
theorem dX8_isKeptAt_8 : decode cX8_isKeptAt 8 = .ok (.getfield 27, 3) := by decide +kernel
theorem dX8_isKeptAt_11 : decode cX8_isKeptAt 11 = .ok (.iload_n 3, 1) := by decide +kernel
theorem dX8_isKeptAt_12 : decode cX8_isKeptAt 12 = .ok (.iaload, 1) := by decide +kernel
theorem dX8_isKeptAt_13 : decode cX8_isKeptAt 13 = .ok (.aload_n 0, 1) := by decide +kernel
theorem dX8_isKeptAt_14 : decode cX8_isKeptAt 14 = .ok (.getfield 37, 3) := by decide +kernel
theorem dX8_isKeptAt_17 : decode cX8_isKeptAt 17 = .ok (.iload_n 3, 1) := by decide +kernel
theorem dX8_isKeptAt_18 : decode cX8_isKeptAt 18 = .ok (.iaload, 1) := by decide +kernel
theorem dX8_isKeptAt_19 : decode cX8_isKeptAt 19 = .ok (.aload_n 0, 1) := by decide +kernel
theorem dX8_isKeptAt_20 : decode cX8_isKeptAt 20 = .ok (.getfield 27, 3) := by decide +kernel
theorem dX8_isKeptAt_23 : decode cX8_isKeptAt 23 = .ok (.iload_n 2, 1) := by decide +kernel
theorem dX8_isKeptAt_24 : decode cX8_isKeptAt 24 = .ok (.iaload, 1) := by decide +kernel
theorem dX8_isKeptAt_25 : decode cX8_isKeptAt 25 = .ok (.aload_n 0, 1) := by decide +kernel
theorem dX8_isKeptAt_26 : decode cX8_isKeptAt 26 = .ok (.getfield 37, 3) := by decide +kernel
theorem dX8_isKeptAt_29 : decode cX8_isKeptAt 29 = .ok (.iload_n 2, 1) := by decide +kernel
theorem dX8_isKeptAt_30 : decode cX8_isKeptAt 30 = .ok (.iaload, 1) := by decide +kernel
theorem dX8_isKeptAt_31 : decode cX8_isKeptAt 31 = .ok (.iload_n 1, 1) := by decide +kernel
theorem dX8_isKeptAt_32 : decode cX8_isKeptAt 32 = .ok (.invokevirtual 126, 3) := by decide +kernel
theorem dX8_isKeptAt_35 : decode cX8_isKeptAt 35 = .ok (.ireturn, 1) := by decide +kernel
set_option maxRecDepth 20000 in
theorem ggX8_kept_X8_spanEnd : GoodIn wsX8_kept wsX8_spanEnd := goodIn_r _ [5, 6, 7, 8, 45, 46, 47, 48, 49, 50, 51, 52, 53, 54, 55, 56, 57, 58, 59, 60, 61, 62, 63, 64, 65, 66, 67, 68, 69, 70, 71] (by decide +kernel) (by decide +kernel)
set_option maxRecDepth 20000 in
theorem gX8_kept_X8_spanEnd : GoodIn wsX8_kept (wsV RX8 130 RX8 yX8_spanEnd wsX8_spanEnd) := goodIn_app (goodIn_of _ (by decide +kernel)) ggX8_kept_X8_spanEnd
set_option maxRecDepth 20000 in
theorem ggX8_kept_X8_isKeptAt : GoodIn wsX8_kept wsX8_isKeptAt := goodIn_r _ [12, 8, 13, 14, 15, 16, 4, 17, 7, 18, 19, 20, 21, 22, 23, 24, 25, 26, 27, 28, 29, 30, 31, 32, 33, 34, 35, 36, 37, 38, 39, 40, 41, 42, 43, 44, 45, 46, 47, 48, 49, 50, 51, 52, 53, 54, 55, 56, 57, 58, 59, 60, 61, 62, 63, 64, 65, 66, 67, 68, 69, 70, 71] (by decide +kernel) (by decide +kernel)
set_option maxRecDepth 20000 in
theorem gX8_kept_X8_isKeptAt : GoodIn wsX8_kept (wsV RX8 143 RX8 yX8_isKeptAt wsX8_isKeptAt) := goodIn_app (goodIn_of _ (by decide +kernel)) ggX8_kept_X8_isKeptAt
theorem dX8_kept_0 : decode cX8_kept 0 = .ok (.aload_n 0, 1) := by decide +kernel
theorem dX8_kept_1 : decode cX8_kept 1 = .ok (.iload_n 1, 1) := by decide +kernel
theorem dX8_kept_2 : decode cX8_kept 2 = .ok (.invokevirtual 130, 3) := by decide +kernel
theorem dX8_kept_5 : decode cX8_kept 5 = .ok (.istore_n 2, 1) := by decide +kernel
theorem dX8_kept_6 : decode cX8_kept 6 = .ok (.iload_n 2, 1) := by decide +kernel
theorem dX8_kept_7 : decode cX8_kept 7 = .ok (.ifCond .ge 7, 3) := by decide +kernel
theorem dX8_kept_10 : decode cX8_kept 10 = .ok (.iconst (-1), 1) := by decide +kernel
theorem dX8_kept_11 : decode cX8_kept 11 = .ok (.goto 17, 3) := by decide +kernel
theorem dX8_kept_14 : decode cX8_kept 14 = .ok (.aload_n 0, 1) := by decide +kernel
theorem dX8_kept_15 : decode cX8_kept 15 = .ok (.iload_n 1, 1) := by decide +kernel
theorem dX8_kept_16 : decode cX8_kept 16 = .ok (.iload_n 2, 1) := by decide +kernel
theorem dX8_kept_17 : decode cX8_kept 17 = .ok (.invokevirtual 143, 3) := by decide +kernel
theorem dX8_kept_20 : decode cX8_kept 20 = .ok (.ifCond .eq 7, 3) := by decide +kernel
theorem dX8_kept_23 : decode cX8_kept 23 = .ok (.iconst 1, 1) := by decide +kernel
theorem dX8_kept_24 : decode cX8_kept 24 = .ok (.goto 4, 3) := by decide +kernel
theorem dX8_kept_27 : decode cX8_kept 27 = .ok (.iconst 0, 1) := by decide +kernel
theorem dX8_kept_28 : decode cX8_kept 28 = .ok (.ireturn, 1) := by decide +kernel
set_option maxRecDepth 20000 in
theorem ggX8_worst_X8_spanEnd : GoodIn wsX8_worst wsX8_spanEnd := goodIn_r _ [6, 7, 8, 9, 45, 46, 47, 48, 49, 50, 51, 52, 53, 54, 55, 56, 57, 58, 59, 60, 61, 62, 63, 64, 65, 66, 67, 68, 69, 70, 71] (by decide +kernel) (by decide +kernel)
set_option maxRecDepth 20000 in
theorem gX8_worst_X8_spanEnd : GoodIn wsX8_worst (wsV RX8 130 RX8 yX8_spanEnd wsX8_spanEnd) := goodIn_app (goodIn_of _ (by decide +kernel)) ggX8_worst_X8_spanEnd
set_option maxRecDepth 20000 in
theorem ggX8_worst_X8_isKeptAt : GoodIn wsX8_worst wsX8_isKeptAt := goodIn_r _ [13, 9, 14, 15, 16, 17, 5, 18, 8, 19, 20, 21, 22, 23, 24, 25, 26, 27, 28, 29, 30, 31, 32, 33, 34, 35, 36, 1, 37, 38, 39, 40, 41, 42, 43, 44, 45, 46, 47, 48, 49, 50, 51, 52, 53, 54, 55, 56, 57, 58, 59, 60, 61, 62, 63, 64, 65, 66, 67, 68, 69, 70, 71] (by decide +kernel) (by decide +kernel)
set_option maxRecDepth 20000 in
theorem gX8_worst_X8_isKeptAt : GoodIn wsX8_worst (wsV RX8 143 RX8 yX8_isKeptAt wsX8_isKeptAt) := goodIn_app (goodIn_of _ (by decide +kernel)) ggX8_worst_X8_isKeptAt
theorem dX8_worst_0 : decode cX8_worst 0 = .ok (.iconst 0, 1) := by decide +kernel
theorem dX8_worst_1 : decode cX8_worst 1 = .ok (.istore_n 1, 1) := by decide +kernel
theorem dX8_worst_2 : decode cX8_worst 2 = .ok (.iload_n 1, 1) := by decide +kernel
theorem dX8_worst_3 : decode cX8_worst 3 = .ok (.aload_n 0, 1) := by decide +kernel
theorem dX8_worst_4 : decode cX8_worst 4 = .ok (.getfield 7, 3) := by decide +kernel
theorem dX8_worst_7 : decode cX8_worst 7 = .ok (.if_icmp .gt 30, 3) := by decide +kernel
theorem dX8_worst_10 : decode cX8_worst 10 = .ok (.aload_n 0, 1) := by decide +kernel
theorem dX8_worst_11 : decode cX8_worst 11 = .ok (.iload_n 1, 1) := by decide +kernel
theorem dX8_worst_12 : decode cX8_worst 12 = .ok (.invokevirtual 130, 3) := by decide +kernel
theorem dX8_worst_15 : decode cX8_worst 15 = .ok (.istore_n 2, 1) := by decide +kernel
theorem dX8_worst_16 : decode cX8_worst 16 = .ok (.iload_n 2, 1) := by decide +kernel
theorem dX8_worst_17 : decode cX8_worst 17 = .ok (.ifCond .lt 14, 3) := by decide +kernel
theorem dX8_worst_20 : decode cX8_worst 20 = .ok (.aload_n 0, 1) := by decide +kernel
theorem dX8_worst_21 : decode cX8_worst 21 = .ok (.iload_n 1, 1) := by decide +kernel
theorem dX8_worst_22 : decode cX8_worst 22 = .ok (.iload_n 2, 1) := by decide +kernel
theorem dX8_worst_23 : decode cX8_worst 23 = .ok (.invokevirtual 143, 3) := by decide +kernel
theorem dX8_worst_26 : decode cX8_worst 26 = .ok (.ifCond .ne 5, 3) := by decide +kernel
theorem dX8_worst_29 : decode cX8_worst 29 = .ok (.iload_n 1, 1) := by decide +kernel
theorem dX8_worst_30 : decode cX8_worst 30 = .ok (.ireturn, 1) := by decide +kernel
