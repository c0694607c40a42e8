theorem dX7_about_65 : decode cX7_about 65 = .ok (.getfield 19, 3) := by decide +kernel
theorem dX7_about_68 : decode cX7_about 68 = .ok (.getfield 116, 3) := by decide +kernel
theorem dX7_about_71 : decode cX7_about 71 = .ok (.iload_n 1, 1) := by decide +kernel
theorem dX7_about_72 : decode cX7_about 72 = .ok (.baload, 1) := by decide +kernel
theorem dX7_about_73 : decode cX7_about 73 = .ok (.ifCond .eq 7, 3) := by decide +kernel
theorem dX7_about_76 : decode cX7_about 76 = .ok (.iconst 1, 1) := by decide +kernel
theorem dX7_about_77 : decode cX7_about 77 = .ok (.goto 4, 3) := by decide +kernel
theorem dX7_about_80 : decode cX7_about 80 = .ok (.iconst 0, 1) := by decide +kernel
theorem dX7_about_81 : decode cX7_about 81 = .ok (.ireturn, 1) := by decide +kernel
theorem dX7_about_82 : decode cX7_about 82 = .ok (.aload_n 0, 1) := by decide +kernel
theorem dX7_about_83 : decode cX7_about 83 = .ok (.getfield 19, 3) := by decide +kernel
theorem dX7_about_86 : decode cX7_about 86 = .ok (.getfield 127, 3) := by decide +kernel
theorem dX7_about_89 : decode cX7_about 89 = .ok (.iload_n 1, 1) := by decide +kernel
theorem dX7_about_90 : decode cX7_about 90 = .ok (.iaload, 1) := by decide +kernel
theorem dX7_about_91 : decode cX7_about 91 = .ok (.ireturn, 1) := by decide +kernel
theorem dX7_about_92 : decode cX7_about 92 = .ok (.sipush (-1000), 3) := by decide +kernel
theorem dX7_about_95 : decode cX7_about 95 = .ok (.ireturn, 1) := by decide +kernel
set_option maxRecDepth 20000 in
theorem ggX7_bow_X7_within : GoodIn wsX7_bow wsX7_within := goodIn_r _ [9] (by decide +kernel) (by decide +kernel)
set_option maxRecDepth 20000 in
theorem gX7_bow_X7_within : GoodIn wsX7_bow (va_wsS RX7 62 yX7_within wsX7_within) := goodIn_app (goodIn_of _ (by decide +kernel)) ggX7_bow_X7_within
theorem dX7_bow_0 : decode cX7_bow 0 = .ok (.iload_n 1, 1) := by decide +kernel
theorem dX7_bow_1 : decode cX7_bow 1 = .ok (.iconst 0, 1) := by decide +kernel
theorem dX7_bow_2 : decode cX7_bow 2 = .ok (.sipush 500, 3) := by decide +kernel
theorem dX7_bow_5 : decode cX7_bow 5 = .ok (.invokestatic 62, 3) := by decide +kernel
theorem dX7_bow_8 : decode cX7_bow 8 = .ok (.ifCond .eq 20, 3) := by decide +kernel
theorem dX7_bow_11 : decode cX7_bow 11 = .ok (.iload_n 2, 1) := by decide +kernel
theorem dX7_bow_12 : decode cX7_bow 12 = .ok (.sipush 1000, 3) := by decide +kernel
theorem dX7_bow_15 : decode cX7_bow 15 = .ok (.sipush 20000, 3) := by decide +kernel
theorem dX7_bow_18 : decode cX7_bow 18 = .ok (.invokestatic 62, 3) := by decide +kernel
theorem dX7_bow_21 : decode cX7_bow 21 = .ok (.ifCond .eq 7, 3) := by decide +kernel
theorem dX7_bow_24 : decode cX7_bow 24 = .ok (.iconst 1, 1) := by decide +kernel
theorem dX7_bow_25 : decode cX7_bow 25 = .ok (.goto 4, 3) := by decide +kernel
theorem dX7_bow_28 : decode cX7_bow 28 = .ok (.iconst 0, 1) := by decide +kernel
theorem dX7_bow_29 : decode cX7_bow 29 = .ok (.istore 6, 2) := by decide +kernel
theorem dX7_bow_31 : decode cX7_bow 31 = .ok (.iload_n 3, 1) := by decide +kernel
theorem dX7_bow_32 : decode cX7_bow 32 = .ok (.bipush 100, 2) := by decide +kernel
theorem dX7_bow_34 : decode cX7_bow 34 = .ok (.sipush 1000, 3) := by decide +kernel
theorem dX7_bow_37 : decode cX7_bow 37 = .ok (.invokestatic 62, 3) := by decide +kernel
theorem dX7_bow_40 : decode cX7_bow 40 = .ok (.ifCond .eq 24, 3) := by decide +kernel
theorem dX7_bow_43 : decode cX7_bow 43 = .ok (.iload 4, 2) := by decide +kernel
theorem dX7_bow_45 : decode cX7_bow 45 = .ok (.iconst 0, 1) := by decide +kernel
theorem dX7_bow_46 : decode cX7_bow 46 = .ok (.bipush 99, 2) := by decide +kernel
theorem dX7_bow_48 : decode cX7_bow 48 = .ok (.invokestatic 62, 3) := by decide +kernel
theorem dX7_bow_51 : decode cX7_bow 51 = .ok (.ifCond .eq 13, 3) := by decide +kernel
theorem dX7_bow_54 : decode cX7_bow 54 = .ok (.iload 4, 2) := by decide +kernel
theorem dX7_bow_56 : decode cX7_bow 56 = .ok (.iload_n 3, 1) := by decide +kernel
theorem dX7_bow_57 : decode cX7_bow 57 = .ok (.if_icmp .ge 7, 3) := by decide +kernel
theorem dX7_bow_60 : decode cX7_bow 60 = .ok (.iconst 1, 1) := by decide +kernel
theorem dX7_bow_61 : decode cX7_bow 61 = .ok (.goto 4, 3) := by decide +kernel
theorem dX7_bow_64 : decode cX7_bow 64 = .ok (.iconst 0, 1) := by decide +kernel
theorem dX7_bow_65 : decode cX7_bow 65 = .ok (.istore 7, 2) := by decide +kernel
theorem dX7_bow_67 : decode cX7_bow 67 = .ok (.iload 6, 2) := by decide +kernel
theorem dX7_bow_69 : decode cX7_bow 69 = .ok (.ifCond .eq 21, 3) := by decide +kernel
theorem dX7_bow_72 : decode cX7_bow 72 = .ok (.iload 7, 2) := by decide +kernel
theorem dX7_bow_74 : decode cX7_bow 74 = .ok (.ifCond .eq 16, 3) := by decide +kernel
theorem dX7_bow_77 : decode cX7_bow 77 = .ok (.iload 5, 2) := by decide +kernel
theorem dX7_bow_79 : decode cX7_bow 79 = .ok (.bipush 20, 2) := by decide +kernel
theorem dX7_bow_81 : decode cX7_bow 81 = .ok (.sipush 800, 3) := by decide +kernel
theorem dX7_bow_84 : decode cX7_bow 84 = .ok (.invokestatic 62, 3) := by decide +kernel
theorem dX7_bow_87 : decode cX7_bow 87 = .ok (.ifCond .ne 6, 3) := by decide +kernel
theorem dX7_bow_90 : decode cX7_bow 90 = .ok (.bipush (-2), 2) := by decide +kernel
theorem dX7_bow_92 : decode cX7_bow 92 = .ok (.ireturn, 1) := by decide +kernel
theorem dX7_bow_93 : decode cX7_bow 93 = .ok (.aload_n 0, 1) := by decide +kernel
theorem dX7_bow_94 : decode cX7_bow 94 = .ok (.getfield 26, 3) := by decide +kernel
theorem dX7_bow_97 : decode cX7_bow 97 = .ok (.iload_n 1, 1) := by decide +kernel
theorem dX7_bow_98 : decode cX7_bow 98 = .ok (.putfield 130, 3) := by decide +kernel
theorem dX7_bow_101 : decode cX7_bow 101 = .ok (.aload_n 0, 1) := by decide +kernel
theorem dX7_bow_102 : decode cX7_bow 102 = .ok (.getfield 26, 3) := by decide +kernel
theorem dX7_bow_105 : decode cX7_bow 105 = .ok (.iload_n 2, 1) := by decide +kernel
theorem dX7_bow_106 : decode cX7_bow 106 = .ok (.putfield 133, 3) := by decide +kernel
theorem dX7_bow_109 : decode cX7_bow 109 = .ok (.aload_n 0, 1) := by decide +kernel
theorem dX7_bow_110 : decode cX7_bow 110 = .ok (.getfield 26, 3) := by decide +kernel
theorem dX7_bow_113 : decode cX7_bow 113 = .ok (.sipush 2000, 3) := by decide +kernel
theorem dX7_bow_116 : decode cX7_bow 116 = .ok (.iload_n 3, 1) := by decide +kernel
theorem dX7_bow_117 : decode cX7_bow 117 = .ok (.iload 4, 2) := by decide +kernel
theorem dX7_bow_119 : decode cX7_bow 119 = .ok (.isub, 1) := by decide +kernel
theorem dX7_bow_120 : decode cX7_bow 120 = .ok (.imul, 1) := by decide +kernel
theorem dX7_bow_121 : decode cX7_bow 121 = .ok (.putfield 136, 3) := by decide +kernel
theorem dX7_bow_124 : decode cX7_bow 124 = .ok (.aload_n 0, 1) := by decide +kernel
theorem dX7_bow_125 : decode cX7_bow 125 = .ok (.getfield 26, 3) := by decide +kernel
theorem dX7_bow_128 : decode cX7_bow 128 = .ok (.iload 5, 2) := by decide +kernel
theorem dX7_bow_130 : decode cX7_bow 130 = .ok (.putfield 139, 3) := by decide +kernel
theorem dX7_bow_133 : decode cX7_bow 133 = .ok (.iconst 1, 1) := by decide +kernel
theorem dX7_bow_134 : decode cX7_bow 134 = .ok (.ireturn, 1) := by decide +kernel
set_option maxRecDepth 20000 in
theorem ggX7_off_X7_laySpanOver : GoodIn wsX7_off wsX7_laySpanOver := goodIn_r _ [8, 9, 10, 11, 12, 13, 14, 15, 16, 17, 18, 19, 20, 21, 22, 23, 24, 25, 26, 27, 28, 7, 29, 30, 3, 31, 32, 33, 34, 35, 36, 37, 38, 39, 40, 41, 42, 43, 76, 77, 78, 79, 80, 81, 82, 83, 84, 85, 86, 87, 88, 89, 90, 91, 92, 93, 94, 95, 96, 97] (by decide +kernel) (by decide +kernel)
set_option maxRecDepth 20000 in
theorem gX7_off_X7_laySpanOver : GoodIn wsX7_off (wsV RX7 142 RX7 yX7_laySpanOver wsX7_laySpanOver) := goodIn_app (goodIn_of _ (by decide +kernel)) ggX7_off_X7_laySpanOver
set_option maxRecDepth 20000 in
theorem ggX7_off_X7_within : GoodIn wsX7_off wsX7_within := goodIn_r _ [46] (by decide +kernel) (by decide +kernel)
set_option maxRecDepth 20000 in
theorem gX7_off_X7_within : GoodIn wsX7_off (va_wsS RX7 62 yX7_within wsX7_within) := goodIn_app (goodIn_of _ (by decide +kernel)) ggX7_off_X7_within
set_option maxRecDepth 20000 in
theorem ggX7_off_X4_offUpper : GoodIn wsX7_off wsX4_offUpper := goodIn_r _ [50, 42, 40, 43, 39, 51, 52, 53, 54, 55, 56, 57, 58, 59, 60, 91, 92, 93, 94, 95, 96, 97, 98, 99, 100, 101, 102] (by decide +kernel) (by decide +kernel)
set_option maxRecDepth 20000 in
theorem gX7_off_X4_offUpper : GoodIn wsX7_off (wsV RX7 147 RX4 yX4_offUpper wsX4_offUpper) := goodIn_app (goodIn_of _ (by decide +kernel)) ggX7_off_X4_offUpper
set_option maxRecDepth 20000 in
theorem ggX7_off_X4_decimetres : GoodIn wsX7_off wsX4_decimetres := goodIn_r _ [64, 40, 39, 91, 92, 93, 94, 95, 96, 97] (by decide +kernel) (by decide +kernel)
set_option maxRecDepth 20000 in
theorem gX7_off_X4_decimetres : GoodIn wsX7_off (wsV RX7 150 RX4 yX4_decimetres wsX4_decimetres) := goodIn_app (goodIn_of _ (by decide +kernel)) ggX7_off_X4_decimetres
set_option maxRecDepth 20000 in
theorem ggX7_off_X7_part : GoodIn wsX7_off wsX7_part := goodIn_r _ [67, 68, 69, 70, 71, 72, 73, 74, 7, 75] (by decide +kernel) (by decide +kernel)
set_option maxRecDepth 20000 in
theorem gX7_off_X7_part : GoodIn wsX7_off (va_wsS RX7 154 yX7_part wsX7_part) := goodIn_app (goodIn_of _ (by decide +kernel)) ggX7_off_X7_part
theorem dX7_off_0 : decode cX7_off 0 = .ok (.aload_n 0, 1) := by decide +kernel
theorem dX7_off_1 : decode cX7_off 1 = .ok (.iload_n 1, 1) := by decide +kernel
theorem dX7_off_2 : decode cX7_off 2 = .ok (.invokevirtual 142, 3) := by decide +kernel
theorem dX7_off_5 : decode cX7_off 5 = .ok (.ifCond .ne 7, 3) := by decide +kernel
theorem dX7_off_8 : decode cX7_off 8 = .ok (.ldc2_w 92, 3) := by decide +kernel
theorem dX7_off_11 : decode cX7_off 11 = .ok (.lreturn, 1) := by decide +kernel
theorem dX7_off_12 : decode cX7_off 12 = .ok (.iload_n 2, 1) := by decide +kernel
theorem dX7_off_13 : decode cX7_off 13 = .ok (.iconst 0, 1) := by decide +kernel
theorem dX7_off_14 : decode cX7_off 14 = .ok (.iconst 1, 1) := by decide +kernel
theorem dX7_off_15 : decode cX7_off 15 = .ok (.invokestatic 62, 3) := by decide +kernel
theorem dX7_off_18 : decode cX7_off 18 = .ok (.ifCond .ne 7, 3) := by decide +kernel
theorem dX7_off_21 : decode cX7_off 21 = .ok (.ldc2_w 145, 3) := by decide +kernel
theorem dX7_off_24 : decode cX7_off 24 = .ok (.lreturn, 1) := by decide +kernel
theorem dX7_off_25 : decode cX7_off 25 = .ok (.aload_n 0, 1) := by decide +kernel
theorem dX7_off_26 : decode cX7_off 26 = .ok (.getfield 35, 3) := by decide +kernel
theorem dX7_off_29 : decode cX7_off 29 = .ok (.iload_n 1, 1) := by decide +kernel
theorem dX7_off_30 : decode cX7_off 30 = .ok (.invokevirtual 147, 3) := by decide +kernel
theorem dX7_off_33 : decode cX7_off 33 = .ok (.aload_n 0, 1) := by decide +kernel
theorem dX7_off_34 : decode cX7_off 34 = .ok (.getfield 35, 3) := by decide +kernel
theorem dX7_off_37 : decode cX7_off 37 = .ok (.invokevirtual 150, 3) := by decide +kernel
theorem dX7_off_40 : decode cX7_off 40 = .ok (.i2l, 1) := by decide +kernel
theorem dX7_off_41 : decode cX7_off 41 = .ok (.iload_n 2, 1) := by decide +kernel
theorem dX7_off_42 : decode cX7_off 42 = .ok (.invokestatic 154, 3) := by decide +kernel
theorem dX7_off_45 : decode cX7_off 45 = .ok (.lreturn, 1) := by decide +kernel
set_option maxRecDepth 20000 in
theorem ggX7_kept_X7_laySpanOver : GoodIn wsX7_kept wsX7_laySpanOver := goodIn_r _ [6, 7, 8, 9, 10, 11, 12, 13, 14, 15, 16, 17, 18, 19, 20, 21, 22, 23, 24, 25, 26, 5, 27, 28, 1, 29, 30, 31, 32, 33, 34, 35, 36, 37, 38, 39, 40, 41, 72, 73, 74, 75, 76, 77, 78, 79, 80, 81, 82, 83, 84, 85, 86, 87, 88, 89, 90, 91, 92, 93] (by decide +kernel) (by decide +kernel)
set_option maxRecDepth 20000 in
theorem gX7_kept_X7_laySpanOver : GoodIn wsX7_kept (wsV RX7 142 RX7 yX7_laySpanOver wsX7_laySpanOver) := goodIn_app (goodIn_of _ (by decide +kernel)) ggX7_kept_X7_laySpanOver
set_option maxRecDepth 20000 in
theorem ggX7_kept_X4_keepsPlace : GoodIn wsX7_kept wsX4_keepsPlace := goodIn_r _ [45, 46, 47, 48, 49, 50, 51, 52, 33, 53, 40, 38, 41, 37, 54, 55, 56, 57, 58, 59, 60, 61, 62, 63, 64, 65, 66, 67, 68, 69, 70, 71, 87, 88, 89, 90, 91, 92, 93, 94, 95, 96, 97, 98, 99, 100, 101, 102] (by decide +kernel) (by decide +kernel)
set_option maxRecDepth 20000 in
theorem gX7_kept_X4_keepsPlace : GoodIn wsX7_kept (wsV RX7 158 RX4 yX4_keepsPlace wsX4_keepsPlace) := goodIn_app (goodIn_of _ (by decide +kernel)) ggX7_kept_X4_keepsPlace
theorem dX7_kept_0 : decode cX7_kept 0 = .ok (.aload_n 0, 1) := by decide +kernel
theorem dX7_kept_1 : decode cX7_kept 1 = .ok (.iload_n 1, 1) := by decide +kernel
theorem dX7_kept_2 : decode cX7_kept 2 = .ok (.invokevirtual 142, 3) := by decide +kernel
theorem dX7_kept_5 : decode cX7_kept 5 = .ok (.ifCond .ne 5, 3) := by decide +kernel
theorem dX7_kept_8 : decode cX7_kept 8 = .ok (.iconst (-1), 1) := by decide +kernel
theorem dX7_kept_9 : decode cX7_kept 9 = .ok (.ireturn, 1) := by decide +kernel
theorem dX7_kept_10 : decode cX7_kept 10 = .ok (.aload_n 0, 1) := by decide +kernel
theorem dX7_kept_11 : decode cX7_kept 11 = .ok (.getfield 35, 3) := by decide +kernel
theorem dX7_kept_14 : decode cX7_kept 14 = .ok (.iload_n 1, 1) := by decide +kernel
theorem dX7_kept_15 : decode cX7_kept 15 = .ok (.invokevirtual 158, 3) := by decide +kernel
theorem dX7_kept_18 : decode cX7_kept 18 = .ok (.ifCond .eq 7, 3) := by decide +kernel
theorem dX7_kept_21 : decode cX7_kept 21 = .ok (.iconst 1, 1) := by decide +kernel
theorem dX7_kept_22 : decode cX7_kept 22 = .ok (.goto 4, 3) := by decide +kernel
theorem dX7_kept_25 : decode cX7_kept 25 = .ok (.iconst 0, 1) := by decide +kernel
theorem dX7_kept_26 : decode cX7_kept 26 = .ok (.ireturn, 1) := by decide +kernel
set_option maxRecDepth 20000 in
theorem ggX7_worst_X2_spans : GoodIn wsX7_worst wsX2_spans := goodIn_r _ [7, 8, 69, 70, 71, 72, 73, 74, 75, 76] (by decide +kernel) (by decide +kernel)
set_option maxRecDepth 20000 in
theorem gX7_worst_X2_spans : GoodIn wsX7_worst (wsV RX7 161 RX2 yX2_spans wsX2_spans) := goodIn_app (goodIn_of _ (by decide +kernel)) ggX7_worst_X2_spans
set_option maxRecDepth 20000 in
theorem ggX7_worst_X7_laySpan : GoodIn wsX7_worst wsX7_laySpan := goodIn_r _ [13, 1, 14, 2, 15, 16, 17, 18, 19, 20, 21, 22, 23, 24, 25, 26, 27, 62, 63, 64, 65, 66, 67, 68, 69, 70, 71, 72, 73, 74, 75, 76, 77, 78, 79, 80, 81, 82, 83] (by decide +kernel) (by decide +kernel)
set_option maxRecDepth 20000 in
theorem gX7_worst_X7_laySpan : GoodIn wsX7_worst (wsV RX7 164 RX7 yX7_laySpan wsX7_laySpan) := goodIn_app (goodIn_of _ (by decide +kernel)) ggX7_worst_X7_laySpan
set_option maxRecDepth 20000 in
theorem ggX7_worst_X4_firstNotKept : GoodIn wsX7_worst wsX4_firstNotKept := goodIn_r _ [31, 23, 24, 32, 33, 34, 19, 35, 36, 37, 38, 39, 40, 41, 42, 43, 26, 27, 44, 45, 46, 47, 48, 49, 50, 51, 52, 53, 54, 55, 56, 57, 58, 59, 60, 61, 77, 78, 79, 80, 81, 82, 83, 84, 85, 86, 87, 88, 89, 90, 91, 92] (by decide +kernel) (by decide +kernel)
set_option maxRecDepth 20000 in
theorem gX7_worst_X4_firstNotKept : GoodIn wsX7_worst (wsV RX7 167 RX4 yX4_firstNotKept wsX4_firstNotKept) := goodIn_app (goodIn_of _ (by decide +kernel)) ggX7_worst_X4_firstNotKept
theorem dX7_worst_0 : decode cX7_worst 0 = .ok (.iconst 0, 1) := by decide +kernel
theorem dX7_worst_1 : decode cX7_worst 1 = .ok (.istore_n 1, 1) := by decide +kernel
theorem dX7_worst_2 : decode cX7_worst 2 = .ok (.iload_n 1, 1) := by decide +kernel
theorem dX7_worst_3 : decode cX7_worst 3 = .ok (.aload_n 0, 1) := by decide +kernel
theorem dX7_worst_4 : decode cX7_worst 4 = .ok (.getfield 19, 3) := by decide +kernel
theorem dX7_worst_7 : decode cX7_worst 7 = .ok (.invokevirtual 161, 3) := by decide +kernel
theorem dX7_worst_10 : decode cX7_worst 10 = .ok (.if_icmp .ge 30, 3) := by decide +kernel
theorem dX7_worst_13 : decode cX7_worst 13 = .ok (.aload_n 0, 1) := by decide +kernel
theorem dX7_worst_14 : decode cX7_worst 14 = .ok (.iload_n 1, 1) := by decide +kernel
theorem dX7_worst_15 : decode cX7_worst 15 = .ok (.invokevirtual 164, 3) := by decide +kernel
theorem dX7_worst_18 : decode cX7_worst 18 = .ok (.aload_n 0, 1) := by decide +kernel
theorem dX7_worst_19 : decode cX7_worst 19 = .ok (.getfield 35, 3) := by decide +kernel
theorem dX7_worst_22 : decode cX7_worst 22 = .ok (.invokevirtual 167, 3) := by decide +kernel
theorem dX7_worst_25 : decode cX7_worst 25 = .ok (.istore_n 2, 1) := by decide +kernel
theorem dX7_worst_26 : decode cX7_worst 26 = .ok (.iload_n 2, 1) := by decide +kernel
theorem dX7_worst_27 : decode cX7_worst 27 = .ok (.bipush (-6), 2) := by decide +kernel
theorem dX7_worst_29 : decode cX7_worst 29 = .ok (.if_icmp .eq 5, 3) := by decide +kernel
theorem dX7_worst_32 : decode cX7_worst 32 = .ok (.iload_n 2, 1) := by decide +kernel
theorem dX7_worst_33 : decode cX7_worst 33 = .ok (.ireturn, 1) := by decide +kernel
theorem dX7_worst_34 : decode cX7_worst 34 = .ok (.iinc 1 1, 3) := by decide +kernel
theorem dX7_worst_37 : decode cX7_worst 37 = .ok (.goto (-35), 3) := by decide +kernel
theorem dX7_worst_40 : decode cX7_worst 40 = .ok (.bipush (-6), 2) := by decide +kernel
theorem dX7_worst_42 : decode cX7_worst 42 = .ok (.ireturn, 1) := by decide +kernel
set_option maxRecDepth 20000 in
theorem ggX7_spanKept_X2_hasSpan : GoodIn wsX7_spanKept wsX2_hasSpan := goodIn_r _ [7, 8, 9, 10, 6, 11, 12, 87, 88, 89, 90, 91, 92, 93, 94] (by decide +kernel) (by decide +kernel)
set_option maxRecDepth 20000 in
theorem gX7_spanKept_X2_hasSpan : GoodIn wsX7_spanKept (wsV RX7 170 RX2 yX2_hasSpan wsX2_hasSpan) := goodIn_app (goodIn_of _ (by decide +kernel)) ggX7_spanKept_X2_hasSpan
set_option maxRecDepth 20000 in
theorem ggX7_spanKept_X7_laySpan : GoodIn wsX7_spanKept wsX7_laySpan := goodIn_r _ [17, 1, 18, 2, 19, 20, 21, 22, 23, 24, 25, 26, 27, 28, 29, 30, 31, 80, 81, 82, 83, 84, 85, 86, 87, 88, 89, 90, 91, 92, 93, 94, 95, 96, 97, 98, 99, 100, 101] (by decide +kernel) (by decide +kernel)
set_option maxRecDepth 20000 in
theorem gX7_spanKept_X7_laySpan : GoodIn wsX7_spanKept (wsV RX7 164 RX7 yX7_laySpan wsX7_laySpan) := goodIn_app (goodIn_of _ (by decide +kernel)) ggX7_spanKept_X7_laySpan
set_option maxRecDepth 20000 in
theorem ggX7_spanKept_X4_isKept : GoodIn wsX7_spanKept wsX4_isKept := goodIn_r _ [35, 28, 27, 36, 37, 38, 39, 40, 41, 42, 43, 44, 45, 23, 46, 47, 48, 49, 50, 51, 52, 53, 54, 55, 56, 57, 58, 30, 31, 59, 60, 61, 62, 63, 64, 65, 66, 67, 68, 69, 70, 71, 72, 73, 74, 75, 76, 77, 78, 79, 95, 96, 97, 98, 99, 100, 101, 102, 103, 104, 105, 106, 107, 108, 109, 110] (by decide +kernel) (by decide +kernel)
set_option maxRecDepth 20000 in
theorem gX7_spanKept_X4_isKept : GoodIn wsX7_spanKept (wsV RX7 173 RX4 yX4_isKept wsX4_isKept) := goodIn_app (goodIn_of _ (by decide +kernel)) ggX7_spanKept_X4_isKept
theorem dX7_spanKept_0 : decode cX7_spanKept 0 = .ok (.aload_n 0, 1) := by decide +kernel
theorem dX7_spanKept_1 : decode cX7_spanKept 1 = .ok (.getfield 19, 3) := by decide +kernel
theorem dX7_spanKept_4 : decode cX7_spanKept 4 = .ok (.iload_n 1, 1) := by decide +kernel
theorem dX7_spanKept_5 : decode cX7_spanKept 5 = .ok (.invokevirtual 170, 3) := by decide +kernel
theorem dX7_spanKept_8 : decode cX7_spanKept 8 = .ok (.ifCond .ne 5, 3) := by decide +kernel
theorem dX7_spanKept_11 : decode cX7_spanKept 11 = .ok (.iconst (-1), 1) := by decide +kernel
theorem dX7_spanKept_12 : decode cX7_spanKept 12 = .ok (.ireturn, 1) := by decide +kernel
theorem dX7_spanKept_13 : decode cX7_spanKept 13 = .ok (.aload_n 0, 1) := by decide +kernel
theorem dX7_spanKept_14 : decode cX7_spanKept 14 = .ok (.iload_n 1, 1) := by decide +kernel
theorem dX7_spanKept_15 : decode cX7_spanKept 15 = .ok (.invokevirtual 164, 3) := by decide +kernel
theorem dX7_spanKept_18 : decode cX7_spanKept 18 = .ok (.aload_n 0, 1) := by decide +kernel
theorem dX7_spanKept_19 : decode cX7_spanKept 19 = .ok (.getfield 35, 3) := by decide +kernel
theorem dX7_spanKept_22 : decode cX7_spanKept 22 = .ok (.invokevirtual 173, 3) := by decide +kernel
theorem dX7_spanKept_25 : decode cX7_spanKept 25 = .ok (.ifCond .eq 7, 3) := by decide +kernel
theorem dX7_spanKept_28 : decode cX7_spanKept 28 = .ok (.iconst 1, 1) := by decide +kernel
theorem dX7_spanKept_29 : decode cX7_spanKept 29 = .ok (.goto 4, 3) := by decide +kernel
theorem dX7_spanKept_32 : decode cX7_spanKept 32 = .ok (.iconst 0, 1) := by decide +kernel
theorem dX7_spanKept_33 : decode cX7_spanKept 33 = .ok (.ireturn, 1) := by decide +kernel
set_option maxRecDepth 20000 in
theorem ggX7_ways_X2_has : GoodIn wsX7_ways wsX2_has := goodIn_r _ [7, 8, 95, 96, 97, 98, 99, 100, 101, 102] (by decide +kernel) (by decide +kernel)
set_option maxRecDepth 20000 in
theorem gX7_ways_X2_has : GoodIn wsX7_ways (wsV RX7 108 RX2 yX2_has wsX2_has) := goodIn_app (goodIn_of _ (by decide +kernel)) ggX7_ways_X2_has
set_option maxRecDepth 20000 in
theorem ggX7_ways_X7_within : GoodIn wsX7_ways wsX7_within := goodIn_r _ [12] (by decide +kernel) (by decide +kernel)
set_option maxRecDepth 20000 in
theorem gX7_ways_X7_within : GoodIn wsX7_ways (va_wsS RX7 62 yX7_within wsX7_within) := goodIn_app (goodIn_of _ (by decide +kernel)) ggX7_ways_X7_within
set_option maxRecDepth 20000 in
theorem ggX7_ways_X1_countSpans : GoodIn wsX7_ways wsX1_countSpans := goodIn_r _ [17, 18, 19, 20, 21, 22, 16, 23, 24, 25, 26, 27, 28, 29, 30, 31, 32, 33, 34, 35, 36, 37, 38, 39, 40, 41, 42, 43, 44, 45, 46, 47, 48, 49, 50, 51, 52, 53, 54, 55, 56, 57, 58, 59, 60, 61, 62, 63, 64, 65, 66, 67, 68, 69, 70, 71, 72, 73, 74, 75, 76, 77, 78, 79, 80, 81, 82, 83, 84, 85, 86, 87, 103, 104, 105, 106, 107, 108, 109, 110, 111, 112, 113, 114, 115, 95, 96, 97, 98, 99, 100, 101, 102, 116, 117, 118, 119, 120, 121, 122, 123, 124] (by decide +kernel) (by decide +kernel)
set_option maxRecDepth 20000 in
theorem gX7_ways_X1_countSpans : GoodIn wsX7_ways (wsV RX7 177 RX1 yX1_countSpans wsX1_countSpans) := goodIn_app (goodIn_of _ (by decide +kernel)) ggX7_ways_X1_countSpans
theorem dX7_ways_0 : decode cX7_ways 0 = .ok (.aload_n 0, 1) := by decide +kernel
theorem dX7_ways_1 : decode cX7_ways 1 = .ok (.getfield 19, 3) := by decide +kernel
theorem dX7_ways_4 : decode cX7_ways 4 = .ok (.iload_n 1, 1) := by decide +kernel
theorem dX7_ways_5 : decode cX7_ways 5 = .ok (.invokevirtual 108, 3) := by decide +kernel
theorem dX7_ways_8 : decode cX7_ways 8 = .ok (.ifCond .eq 14, 3) := by decide +kernel
theorem dX7_ways_11 : decode cX7_ways 11 = .ok (.aload_n 0, 1) := by decide +kernel
theorem dX7_ways_12 : decode cX7_ways 12 = .ok (.getfield 19, 3) := by decide +kernel
theorem dX7_ways_15 : decode cX7_ways 15 = .ok (.iload_n 2, 1) := by decide +kernel
theorem dX7_ways_16 : decode cX7_ways 16 = .ok (.invokevirtual 108, 3) := by decide +kernel
theorem dX7_ways_19 : decode cX7_ways 19 = .ok (.ifCond .ne 5, 3) := by decide +kernel
theorem dX7_ways_22 : decode cX7_ways 22 = .ok (.iconst (-1), 1) := by decide +kernel
theorem dX7_ways_23 : decode cX7_ways 23 = .ok (.ireturn, 1) := by decide +kernel
theorem dX7_ways_24 : decode cX7_ways 24 = .ok (.iload_n 3, 1) := by decide +kernel
theorem dX7_ways_25 : decode cX7_ways 25 = .ok (.iconst 0, 1) := by decide +kernel
theorem dX7_ways_26 : decode cX7_ways 26 = .ok (.sipush 400, 3) := by decide +kernel
theorem dX7_ways_29 : decode cX7_ways 29 = .ok (.invokestatic 62, 3) := by decide +kernel
theorem dX7_ways_32 : decode cX7_ways 32 = .ok (.ifCond .ne 6, 3) := by decide +kernel
theorem dX7_ways_35 : decode cX7_ways 35 = .ok (.bipush (-2), 2) := by decide +kernel
theorem dX7_ways_37 : decode cX7_ways 37 = .ok (.ireturn, 1) := by decide +kernel
theorem dX7_ways_38 : decode cX7_ways 38 = .ok (.iload_n 1, 1) := by decide +kernel
theorem dX7_ways_39 : decode cX7_ways 39 = .ok (.iload_n 2, 1) := by decide +kernel
theorem dX7_ways_40 : decode cX7_ways 40 = .ok (.if_icmp .lt 6, 3) := by decide +kernel
theorem dX7_ways_43 : decode cX7_ways 43 = .ok (.bipush (-5), 2) := by decide +kernel
theorem dX7_ways_45 : decode cX7_ways 45 = .ok (.ireturn, 1) := by decide +kernel
theorem dX7_ways_46 : decode cX7_ways 46 = .ok (.aload_n 0, 1) := by decide +kernel
theorem dX7_ways_47 : decode cX7_ways 47 = .ok (.getfield 51, 3) := by decide +kernel
theorem dX7_ways_50 : decode cX7_ways 50 = .ok (.iload_n 1, 1) := by decide +kernel
theorem dX7_ways_51 : decode cX7_ways 51 = .ok (.iload_n 2, 1) := by decide +kernel
theorem dX7_ways_52 : decode cX7_ways 52 = .ok (.iload_n 3, 1) := by decide +kernel
theorem dX7_ways_53 : decode cX7_ways 53 = .ok (.invokevirtual 177, 3) := by decide +kernel
theorem dX7_ways_56 : decode cX7_ways 56 = .ok (.ireturn, 1) := by decide +kernel
set_option maxRecDepth 20000 in
theorem ggX7_carrier_X7_within : GoodIn wsX7_carrier wsX7_within := goodIn_r _ [10] (by decide +kernel) (by decide +kernel)
set_option maxRecDepth 20000 in
theorem gX7_carrier_X7_within : GoodIn wsX7_carrier (va_wsS RX7 62 yX7_within wsX7_within) := goodIn_app (goodIn_of _ (by decide +kernel)) ggX7_carrier_X7_within
theorem dX7_carrier_0 : decode cX7_carrier 0 = .ok (.iload_n 1, 1) := by decide +kernel
theorem dX7_carrier_1 : decode cX7_carrier 1 = .ok (.sipush 1000, 3) := by decide +kernel
theorem dX7_carrier_4 : decode cX7_carrier 4 = .ok (.sipush 20000, 3) := by decide +kernel
theorem dX7_carrier_7 : decode cX7_carrier 7 = .ok (.invokestatic 62, 3) := by decide +kernel
theorem dX7_carrier_10 : decode cX7_carrier 10 = .ok (.ifCond .eq 17, 3) := by decide +kernel
theorem dX7_carrier_13 : decode cX7_carrier 13 = .ok (.iload_n 2, 1) := by decide +kernel
theorem dX7_carrier_14 : decode cX7_carrier 14 = .ok (.iconst 1, 1) := by decide +kernel
theorem dX7_carrier_15 : decode cX7_carrier 15 = .ok (.bipush 50, 2) := by decide +kernel
theorem dX7_carrier_17 : decode cX7_carrier 17 = .ok (.invokestatic 62, 3) := by decide +kernel
theorem dX7_carrier_20 : decode cX7_carrier 20 = .ok (.ifCond .eq 7, 3) := by decide +kernel
theorem dX7_carrier_23 : decode cX7_carrier 23 = .ok (.iconst 1, 1) := by decide +kernel
theorem dX7_carrier_24 : decode cX7_carrier 24 = .ok (.goto 4, 3) := by decide +kernel
theorem dX7_carrier_27 : decode cX7_carrier 27 = .ok (.iconst 0, 1) := by decide +kernel
theorem dX7_carrier_28 : decode cX7_carrier 28 = .ok (.istore 6, 2) := by decide +kernel
theorem dX7_carrier_30 : decode cX7_carrier 30 = .ok (.iload_n 3, 1) := by decide +kernel
theorem dX7_carrier_31 : decode cX7_carrier 31 = .ok (.iconst 1, 1) := by decide +kernel
theorem dX7_carrier_32 : decode cX7_carrier 32 = .ok (.bipush 12, 2) := by decide +kernel
theorem dX7_carrier_34 : decode cX7_carrier 34 = .ok (.invokestatic 62, 3) := by decide +kernel
theorem dX7_carrier_37 : decode cX7_carrier 37 = .ok (.ifCond .eq 19, 3) := by decide +kernel
theorem dX7_carrier_40 : decode cX7_carrier 40 = .ok (.iload 4, 2) := by decide +kernel
theorem dX7_carrier_42 : decode cX7_carrier 42 = .ok (.iconst 1, 1) := by decide +kernel
theorem dX7_carrier_43 : decode cX7_carrier 43 = .ok (.sipush 2000, 3) := by decide +kernel
theorem dX7_carrier_46 : decode cX7_carrier 46 = .ok (.invokestatic 62, 3) := by decide +kernel
theorem dX7_carrier_49 : decode cX7_carrier 49 = .ok (.ifCond .eq 7, 3) := by decide +kernel
theorem dX7_carrier_52 : decode cX7_carrier 52 = .ok (.iconst 1, 1) := by decide +kernel
theorem dX7_carrier_53 : decode cX7_carrier 53 = .ok (.goto 4, 3) := by decide +kernel
theorem dX7_carrier_56 : decode cX7_carrier 56 = .ok (.iconst 0, 1) := by decide +kernel
theorem dX7_carrier_57 : decode cX7_carrier 57 = .ok (.istore 7, 2) := by decide +kernel
theorem dX7_carrier_59 : decode cX7_carrier 59 = .ok (.iload 6, 2) := by decide +kernel
theorem dX7_carrier_61 : decode cX7_carrier 61 = .ok (.ifCond .eq 22, 3) := by decide +kernel
theorem dX7_carrier_64 : decode cX7_carrier 64 = .ok (.iload 7, 2) := by decide +kernel
theorem dX7_carrier_66 : decode cX7_carrier 66 = .ok (.ifCond .eq 17, 3) := by decide +kernel
theorem dX7_carrier_69 : decode cX7_carrier 69 = .ok (.iload 5, 2) := by decide +kernel
theorem dX7_carrier_71 : decode cX7_carrier 71 = .ok (.sipush 500, 3) := by decide +kernel
theorem dX7_carrier_74 : decode cX7_carrier 74 = .ok (.sipush 3000, 3) := by decide +kernel
theorem dX7_carrier_77 : decode cX7_carrier 77 = .ok (.invokestatic 62, 3) := by decide +kernel
theorem dX7_carrier_80 : decode cX7_carrier 80 = .ok (.ifCond .ne 6, 3) := by decide +kernel
theorem dX7_carrier_83 : decode cX7_carrier 83 = .ok (.bipush (-2), 2) := by decide +kernel
theorem dX7_carrier_85 : decode cX7_carrier 85 = .ok (.ireturn, 1) := by decide +kernel
theorem dX7_carrier_86 : decode cX7_carrier 86 = .ok (.aload_n 0, 1) := by decide +kernel
theorem dX7_carrier_87 : decode cX7_carrier 87 = .ok (.getfield 42, 3) := by decide +kernel
theorem dX7_carrier_90 : decode cX7_carrier 90 = .ok (.iload_n 1, 1) := by decide +kernel
theorem dX7_carrier_91 : decode cX7_carrier 91 = .ok (.putfield 181, 3) := by decide +kernel
theorem dX7_carrier_94 : decode cX7_carrier 94 = .ok (.aload_n 0, 1) := by decide +kernel
theorem dX7_carrier_95 : decode cX7_carrier 95 = .ok (.getfield 42, 3) := by decide +kernel
theorem dX7_carrier_98 : decode cX7_carrier 98 = .ok (.iload_n 2, 1) := by decide +kernel
theorem dX7_carrier_99 : decode cX7_carrier 99 = .ok (.putfield 184, 3) := by decide +kernel
theorem dX7_carrier_102 : decode cX7_carrier 102 = .ok (.aload_n 0, 1) := by decide +kernel
theorem dX7_carrier_103 : decode cX7_carrier 103 = .ok (.getfield 42, 3) := by decide +kernel
theorem dX7_carrier_106 : decode cX7_carrier 106 = .ok (.iload_n 3, 1) := by decide +kernel
theorem dX7_carrier_107 : decode cX7_carrier 107 = .ok (.putfield 187, 3) := by decide +kernel
theorem dX7_carrier_110 : decode cX7_carrier 110 = .ok (.aload_n 0, 1) := by decide +kernel
theorem dX7_carrier_111 : decode cX7_carrier 111 = .ok (.getfield 42, 3) := by decide +kernel
theorem dX7_carrier_114 : decode cX7_carrier 114 = .ok (.iload 4, 2) := by decide +kernel
theorem dX7_carrier_116 : decode cX7_carrier 116 = .ok (.putfield 190, 3) := by decide +kernel
theorem dX7_carrier_119 : decode cX7_carrier 119 = .ok (.aload_n 0, 1) := by decide +kernel
theorem dX7_carrier_120 : decode cX7_carrier 120 = .ok (.getfield 42, 3) := by decide +kernel
theorem dX7_carrier_123 : decode cX7_carrier 123 = .ok (.iload 5, 2) := by decide +kernel
theorem dX7_carrier_125 : decode cX7_carrier 125 = .ok (.putfield 193, 3) := by decide +kernel
theorem dX7_carrier_128 : decode cX7_carrier 128 = .ok (.iconst 1, 1) := by decide +kernel
theorem dX7_carrier_129 : decode cX7_carrier 129 = .ok (.ireturn, 1) := by decide +kernel
set_option maxRecDepth 20000 in
theorem ggX7_sag_X7_refusalOfDropper : GoodIn wsX7_sag wsX7_refusalOfDropper := goodIn_r _ [7, 2, 8, 9, 10, 6, 11, 43, 44, 45, 46, 47, 48, 49, 50, 51, 52, 53, 54] (by decide +kernel) (by decide +kernel)
set_option maxRecDepth 20000 in
theorem gX7_sag_X7_refusalOfDropper : GoodIn wsX7_sag (wsV RX7 196 RX7 yX7_refusalOfDropper wsX7_refusalOfDropper) := goodIn_app (goodIn_of _ (by decide +kernel)) ggX7_sag_X7_refusalOfDropper
set_option maxRecDepth 20000 in
theorem ggX7_sag_X0_sagUpper : GoodIn wsX7_sag wsX0_sagUpper := goodIn_r _ [16, 17, 18, 19, 20, 21, 22, 23, 24, 25, 26, 27, 50, 51, 52, 53, 54] (by decide +kernel) (by decide +kernel)
set_option maxRecDepth 20000 in
theorem gX7_sag_X0_sagUpper : GoodIn wsX7_sag (wsV RX7 201 RX0 yX0_sagUpper wsX0_sagUpper) := goodIn_app (goodIn_of _ (by decide +kernel)) ggX7_sag_X0_sagUpper
set_option maxRecDepth 20000 in
theorem ggX7_sag_X0_lower : GoodIn wsX7_sag wsX0_lower := goodIn_r _ [31, 32, 17, 33, 50, 51, 52, 53, 54] (by decide +kernel) (by decide +kernel)
set_option maxRecDepth 20000 in
theorem gX7_sag_X0_lower : GoodIn wsX7_sag (wsV RX7 205 RX0 yX0_lower wsX0_lower) := goodIn_app (goodIn_of _ (by decide +kernel)) ggX7_sag_X0_lower
set_option maxRecDepth 20000 in
theorem ggX7_sag_X7_part : GoodIn wsX7_sag wsX7_part := goodIn_r _ [36, 37, 38, 20, 39, 1, 40, 41, 6, 42] (by decide +kernel) (by decide +kernel)
set_option maxRecDepth 20000 in
theorem gX7_sag_X7_part : GoodIn wsX7_sag (va_wsS RX7 154 yX7_part wsX7_part) := goodIn_app (goodIn_of _ (by decide +kernel)) ggX7_sag_X7_part
theorem dX7_sag_0 : decode cX7_sag 0 = .ok (.aload_n 0, 1) := by decide +kernel
theorem dX7_sag_1 : decode cX7_sag 1 = .ok (.iload_n 1, 1) := by decide +kernel
theorem dX7_sag_2 : decode cX7_sag 2 = .ok (.iload_n 2, 1) := by decide +kernel
theorem dX7_sag_3 : decode cX7_sag 3 = .ok (.iload_n 3, 1) := by decide +kernel
theorem dX7_sag_4 : decode cX7_sag 4 = .ok (.invokevirtual 196, 3) := by decide +kernel
theorem dX7_sag_7 : decode cX7_sag 7 = .ok (.istore 4, 2) := by decide +kernel
theorem dX7_sag_9 : decode cX7_sag 9 = .ok (.iload 4, 2) := by decide +kernel
theorem dX7_sag_11 : decode cX7_sag 11 = .ok (.ifCond .eq 11, 3) := by decide +kernel
theorem dX7_sag_14 : decode cX7_sag 14 = .ok (.ldc2_w 199, 3) := by decide +kernel
theorem dX7_sag_17 : decode cX7_sag 17 = .ok (.iload 4, 2) := by decide +kernel
theorem dX7_sag_19 : decode cX7_sag 19 = .ok (.i2l, 1) := by decide +kernel
theorem dX7_sag_20 : decode cX7_sag 20 = .ok (.ladd, 1) := by decide +kernel
theorem dX7_sag_21 : decode cX7_sag 21 = .ok (.lreturn, 1) := by decide +kernel
theorem dX7_sag_22 : decode cX7_sag 22 = .ok (.aload_n 0, 1) := by decide +kernel
theorem dX7_sag_23 : decode cX7_sag 23 = .ok (.getfield 42, 3) := by decide +kernel
theorem dX7_sag_26 : decode cX7_sag 26 = .ok (.iload_n 1, 1) := by decide +kernel
theorem dX7_sag_27 : decode cX7_sag 27 = .ok (.iload_n 2, 1) := by decide +kernel
theorem dX7_sag_28 : decode cX7_sag 28 = .ok (.invokevirtual 201, 3) := by decide +kernel
theorem dX7_sag_31 : decode cX7_sag 31 = .ok (.aload_n 0, 1) := by decide +kernel
theorem dX7_sag_32 : decode cX7_sag 32 = .ok (.getfield 42, 3) := by decide +kernel
theorem dX7_sag_35 : decode cX7_sag 35 = .ok (.invokevirtual 205, 3) := by decide +kernel
theorem dX7_sag_38 : decode cX7_sag 38 = .ok (.iload_n 3, 1) := by decide +kernel
theorem dX7_sag_39 : decode cX7_sag 39 = .ok (.invokestatic 154, 3) := by decide +kernel
theorem dX7_sag_42 : decode cX7_sag 42 = .ok (.lreturn, 1) := by decide +kernel
set_option maxRecDepth 20000 in
theorem ggX7_dropper_X7_refusalOfDropper : GoodIn wsX7_dropper wsX7_refusalOfDropper := goodIn_r _ [7, 2, 8, 9, 10, 6, 11, 49, 50, 51, 52, 53, 54, 55, 56, 57, 58, 59, 60] (by decide +kernel) (by decide +kernel)
set_option maxRecDepth 20000 in
theorem gX7_dropper_X7_refusalOfDropper : GoodIn wsX7_dropper (wsV RX7 196 RX7 yX7_refusalOfDropper wsX7_refusalOfDropper) := goodIn_app (goodIn_of _ (by decide +kernel)) ggX7_dropper_X7_refusalOfDropper
set_option maxRecDepth 20000 in
theorem ggX7_dropper_X0_lengthUpper : GoodIn wsX7_dropper wsX0_lengthUpper := goodIn_r _ [16, 17, 18, 19, 20, 15, 21, 22, 23, 24, 25, 26, 27, 28, 29, 30, 31, 32, 33, 34, 35, 36, 37, 38, 56, 57, 58, 59, 60] (by decide +kernel) (by decide +kernel)
set_option maxRecDepth 20000 in
theorem gX7_dropper_X0_lengthUpper : GoodIn wsX7_dropper (wsV RX7 209 RX0 yX0_lengthUpper wsX0_lengthUpper) := goodIn_app (goodIn_of _ (by decide +kernel)) ggX7_dropper_X0_lengthUpper
set_option maxRecDepth 20000 in
theorem ggX7_dropper_X0_lower : GoodIn wsX7_dropper wsX0_lower := goodIn_r _ [21, 22, 23, 24, 56, 57, 58, 59, 60] (by decide +kernel) (by decide +kernel)
set_option maxRecDepth 20000 in
theorem gX7_dropper_X0_lower : GoodIn wsX7_dropper (wsV RX7 205 RX0 yX0_lower wsX0_lower) := goodIn_app (goodIn_of _ (by decide +kernel)) ggX7_dropper_X0_lower
set_option maxRecDepth 20000 in
theorem ggX7_dropper_X7_part : GoodIn wsX7_dropper wsX7_part := goodIn_r _ [42, 43, 44, 31, 45, 1, 46, 47, 6, 48] (by decide +kernel) (by decide +kernel)
set_option maxRecDepth 20000 in
theorem gX7_dropper_X7_part : GoodIn wsX7_dropper (va_wsS RX7 154 yX7_part wsX7_part) := goodIn_app (goodIn_of _ (by decide +kernel)) ggX7_dropper_X7_part
theorem dX7_dropper_0 : decode cX7_dropper 0 = .ok (.aload_n 0, 1) := by decide +kernel
theorem dX7_dropper_1 : decode cX7_dropper 1 = .ok (.iload_n 1, 1) := by decide +kernel
theorem dX7_dropper_2 : decode cX7_dropper 2 = .ok (.iload_n 2, 1) := by decide +kernel
theorem dX7_dropper_3 : decode cX7_dropper 3 = .ok (.iload_n 3, 1) := by decide +kernel
theorem dX7_dropper_4 : decode cX7_dropper 4 = .ok (.invokevirtual 196, 3) := by decide +kernel
theorem dX7_dropper_7 : decode cX7_dropper 7 = .ok (.istore 4, 2) := by decide +kernel
theorem dX7_dropper_9 : decode cX7_dropper 9 = .ok (.iload 4, 2) := by decide +kernel
theorem dX7_dropper_11 : decode cX7_dropper 11 = .ok (.ifCond .eq 11, 3) := by decide +kernel
theorem dX7_dropper_14 : decode cX7_dropper 14 = .ok (.ldc2_w 199, 3) := by decide +kernel
theorem dX7_dropper_17 : decode cX7_dropper 17 = .ok (.iload 4, 2) := by decide +kernel
theorem dX7_dropper_19 : decode cX7_dropper 19 = .ok (.i2l, 1) := by decide +kernel
theorem dX7_dropper_20 : decode cX7_dropper 20 = .ok (.ladd, 1) := by decide +kernel
theorem dX7_dropper_21 : decode cX7_dropper 21 = .ok (.lreturn, 1) := by decide +kernel
theorem dX7_dropper_22 : decode cX7_dropper 22 = .ok (.aload_n 0, 1) := by decide +kernel
theorem dX7_dropper_23 : decode cX7_dropper 23 = .ok (.getfield 42, 3) := by decide +kernel
theorem dX7_dropper_26 : decode cX7_dropper 26 = .ok (.iload_n 1, 1) := by decide +kernel
theorem dX7_dropper_27 : decode cX7_dropper 27 = .ok (.iload_n 2, 1) := by decide +kernel
theorem dX7_dropper_28 : decode cX7_dropper 28 = .ok (.invokevirtual 209, 3) := by decide +kernel
theorem dX7_dropper_31 : decode cX7_dropper 31 = .ok (.aload_n 0, 1) := by decide +kernel
theorem dX7_dropper_32 : decode cX7_dropper 32 = .ok (.getfield 42, 3) := by decide +kernel
theorem dX7_dropper_35 : decode cX7_dropper 35 = .ok (.invokevirtual 205, 3) := by decide +kernel
theorem dX7_dropper_38 : decode cX7_dropper 38 = .ok (.iload_n 3, 1) := by decide +kernel
theorem dX7_dropper_39 : decode cX7_dropper 39 = .ok (.invokestatic 154, 3) := by decide +kernel
theorem dX7_dropper_42 : decode cX7_dropper 42 = .ok (.lreturn, 1) := by decide +kernel
set_option maxRecDepth 20000 in
theorem ggX7_cut_X7_refusalOfDropper : GoodIn wsX7_cut wsX7_refusalOfDropper := goodIn_r _ [7, 2, 8, 9, 10, 6, 11, 47, 48, 49, 50, 51, 52, 53, 54, 55, 56, 57, 58] (by decide +kernel) (by decide +kernel)
set_option maxRecDepth 20000 in
theorem gX7_cut_X7_refusalOfDropper : GoodIn wsX7_cut (wsV RX7 196 RX7 yX7_refusalOfDropper wsX7_refusalOfDropper) := goodIn_app (goodIn_of _ (by decide +kernel)) ggX7_cut_X7_refusalOfDropper
set_option maxRecDepth 20000 in
theorem ggX7_cut_X0_cutUp : GoodIn wsX7_cut wsX0_cutUp := goodIn_r _ [16, 17, 18, 19, 15, 20, 21, 22, 23, 24, 25, 26, 27, 28, 29, 30, 31, 32, 33, 34, 35, 36, 37, 38, 39, 40, 41, 42, 43, 44, 45, 46, 54, 55, 56, 57, 58] (by decide +kernel) (by decide +kernel)
set_option maxRecDepth 20000 in
theorem gX7_cut_X0_cutUp : GoodIn wsX7_cut (wsV RX7 213 RX0 yX0_cutUp wsX0_cutUp) := goodIn_app (goodIn_of _ (by decide +kernel)) ggX7_cut_X0_cutUp
theorem dX7_cut_0 : decode cX7_cut 0 = .ok (.aload_n 0, 1) := by decide +kernel
theorem dX7_cut_1 : decode cX7_cut 1 = .ok (.iload_n 1, 1) := by decide +kernel
theorem dX7_cut_2 : decode cX7_cut 2 = .ok (.iload_n 2, 1) := by decide +kernel
theorem dX7_cut_3 : decode cX7_cut 3 = .ok (.iconst 0, 1) := by decide +kernel
theorem dX7_cut_4 : decode cX7_cut 4 = .ok (.invokevirtual 196, 3) := by decide +kernel
theorem dX7_cut_7 : decode cX7_cut 7 = .ok (.istore_n 3, 1) := by decide +kernel
theorem dX7_cut_8 : decode cX7_cut 8 = .ok (.iload_n 3, 1) := by decide +kernel
theorem dX7_cut_9 : decode cX7_cut 9 = .ok (.ifCond .eq 8, 3) := by decide +kernel
theorem dX7_cut_12 : decode cX7_cut 12 = .ok (.ldc 212, 2) := by decide +kernel
theorem dX7_cut_14 : decode cX7_cut 14 = .ok (.iload_n 3, 1) := by decide +kernel
theorem dX7_cut_15 : decode cX7_cut 15 = .ok (.iadd, 1) := by decide +kernel
theorem dX7_cut_16 : decode cX7_cut 16 = .ok (.ireturn, 1) := by decide +kernel
theorem dX7_cut_17 : decode cX7_cut 17 = .ok (.aload_n 0, 1) := by decide +kernel
theorem dX7_cut_18 : decode cX7_cut 18 = .ok (.getfield 42, 3) := by decide +kernel
theorem dX7_cut_21 : decode cX7_cut 21 = .ok (.iload_n 1, 1) := by decide +kernel
theorem dX7_cut_22 : decode cX7_cut 22 = .ok (.iload_n 2, 1) := by decide +kernel
theorem dX7_cut_23 : decode cX7_cut 23 = .ok (.invokevirtual 213, 3) := by decide +kernel
theorem dX7_cut_26 : decode cX7_cut 26 = .ok (.ireturn, 1) := by decide +kernel
set_option maxRecDepth 20000 in
theorem ggX7_bears_X7_within : GoodIn wsX7_bears wsX7_within := goodIn_r _ [7] (by decide +kernel) (by decide +kernel)
set_option maxRecDepth 20000 in
theorem gX7_bears_X7_within : GoodIn wsX7_bears (va_wsS RX7 62 yX7_within wsX7_within) := goodIn_app (goodIn_of _ (by decide +kernel)) ggX7_bears_X7_within
set_option maxRecDepth 20000 in
theorem ggX7_bears_X0_weight : GoodIn wsX7_bears wsX0_weight := goodIn_r _ [12, 13, 14, 15, 34, 35, 36, 37, 38] (by decide +kernel) (by decide +kernel)
set_option maxRecDepth 20000 in
theorem gX7_bears_X0_weight : GoodIn wsX7_bears (wsV RX7 217 RX0 yX0_weight wsX0_weight) := goodIn_app (goodIn_of _ (by decide +kernel)) ggX7_bears_X0_weight
set_option maxRecDepth 20000 in
theorem ggX7_bears_X7_part : GoodIn wsX7_bears wsX7_part := goodIn_r _ [18, 19, 20, 21, 22, 23, 24, 25, 6, 26] (by decide +kernel) (by decide +kernel)
set_option maxRecDepth 20000 in
theorem gX7_bears_X7_part : GoodIn wsX7_bears (va_wsS RX7 154 yX7_part wsX7_part) := goodIn_app (goodIn_of _ (by decide +kernel)) ggX7_bears_X7_part
theorem dX7_bears_0 : decode cX7_bears 0 = .ok (.iload_n 1, 1) := by decide +kernel
theorem dX7_bears_1 : decode cX7_bears 1 = .ok (.iconst 1, 1) := by decide +kernel
theorem dX7_bears_2 : decode cX7_bears 2 = .ok (.sipush 800, 3) := by decide +kernel
theorem dX7_bears_5 : decode cX7_bears 5 = .ok (.invokestatic 62, 3) := by decide +kernel
theorem dX7_bears_8 : decode cX7_bears 8 = .ok (.ifCond .eq 12, 3) := by decide +kernel
theorem dX7_bears_11 : decode cX7_bears 11 = .ok (.iload_n 2, 1) := by decide +kernel
theorem dX7_bears_12 : decode cX7_bears 12 = .ok (.iconst 0, 1) := by decide +kernel
theorem dX7_bears_13 : decode cX7_bears 13 = .ok (.iconst 1, 1) := by decide +kernel
theorem dX7_bears_14 : decode cX7_bears 14 = .ok (.invokestatic 62, 3) := by decide +kernel
theorem dX7_bears_17 : decode cX7_bears 17 = .ok (.ifCond .ne 7, 3) := by decide +kernel
theorem dX7_bears_20 : decode cX7_bears 20 = .ok (.ldc2_w 145, 3) := by decide +kernel
theorem dX7_bears_23 : decode cX7_bears 23 = .ok (.lreturn, 1) := by decide +kernel
theorem dX7_bears_24 : decode cX7_bears 24 = .ok (.aload_n 0, 1) := by decide +kernel
theorem dX7_bears_25 : decode cX7_bears 25 = .ok (.getfield 42, 3) := by decide +kernel
theorem dX7_bears_28 : decode cX7_bears 28 = .ok (.iload_n 1, 1) := by decide +kernel
theorem dX7_bears_29 : decode cX7_bears 29 = .ok (.invokevirtual 217, 3) := by decide +kernel
theorem dX7_bears_32 : decode cX7_bears 32 = .ok (.ldc2_w 220, 3) := by decide +kernel
theorem dX7_bears_35 : decode cX7_bears 35 = .ok (.iload_n 2, 1) := by decide +kernel
theorem dX7_bears_36 : decode cX7_bears 36 = .ok (.invokestatic 154, 3) := by decide +kernel
theorem dX7_bears_39 : decode cX7_bears 39 = .ok (.lreturn, 1) := by decide +kernel
set_option maxRecDepth 20000 in
theorem ggX7_shortOne_X2_spans : GoodIn wsX7_shortOne wsX2_spans := goodIn_r _ [9, 10, 65, 66, 67, 68, 69, 70, 71, 72] (by decide +kernel) (by decide +kernel)
set_option maxRecDepth 20000 in
theorem gX7_shortOne_X2_spans : GoodIn wsX7_shortOne (wsV RX7 161 RX2 yX2_spans wsX2_spans) := goodIn_app (goodIn_of _ (by decide +kernel)) ggX7_shortOne_X2_spans
set_option maxRecDepth 20000 in
theorem ggX7_shortOne_X2_spanLength : GoodIn wsX7_shortOne wsX2_spanLength := goodIn_r _ [14, 15, 16, 17, 8, 18, 19, 20, 21, 22, 23, 24, 65, 66, 67, 68, 69, 70, 71, 72] (by decide +kernel) (by decide +kernel)
set_option maxRecDepth 20000 in
theorem gX7_shortOne_X2_spanLength : GoodIn wsX7_shortOne (wsV RX7 222 RX2 yX2_spanLength wsX2_spanLength) := goodIn_app (goodIn_of _ (by decide +kernel)) ggX7_shortOne_X2_spanLength
set_option maxRecDepth 20000 in
theorem ggX7_shortOne_X0_lengthUpper : GoodIn wsX7_shortOne wsX0_lengthUpper := goodIn_r _ [29, 30, 31, 32, 33, 28, 34, 35, 36, 37, 38, 39, 40, 41, 42, 43, 44, 45, 46, 47, 48, 49, 50, 51, 60, 61, 62, 63, 64] (by decide +kernel) (by decide +kernel)
set_option maxRecDepth 20000 in
theorem gX7_shortOne_X0_lengthUpper : GoodIn wsX7_shortOne (wsV RX7 209 RX0 yX0_lengthUpper wsX0_lengthUpper) := goodIn_app (goodIn_of _ (by decide +kernel)) ggX7_shortOne_X0_lengthUpper
set_option maxRecDepth 20000 in
theorem ggX7_shortOne_X0_lower : GoodIn wsX7_shortOne wsX0_lower := goodIn_r _ [34, 35, 36, 37, 60, 61, 62, 63, 64] (by decide +kernel) (by decide +kernel)
set_option maxRecDepth 20000 in
theorem gX7_shortOne_X0_lower : GoodIn wsX7_shortOne (wsV RX7 205 RX0 yX0_lower wsX0_lower) := goodIn_app (goodIn_of _ (by decide +kernel)) ggX7_shortOne_X0_lower
theorem dX7_shortOne_0 : decode cX7_shortOne 0 = .ok (.iconst 0, 1) := by decide +kernel
theorem dX7_shortOne_1 : decode cX7_shortOne 1 = .ok (.istore_n 1, 1) := by decide +kernel
theorem dX7_shortOne_2 : decode cX7_shortOne 2 = .ok (.iload_n 1, 1) := by decide +kernel
theorem dX7_shortOne_3 : decode cX7_shortOne 3 = .ok (.aload_n 0, 1) := by decide +kernel
theorem dX7_shortOne_4 : decode cX7_shortOne 4 = .ok (.getfield 19, 3) := by decide +kernel
theorem dX7_shortOne_7 : decode cX7_shortOne 7 = .ok (.invokevirtual 161, 3) := by decide +kernel
theorem dX7_shortOne_10 : decode cX7_shortOne 10 = .ok (.if_icmp .ge 68, 3) := by decide +kernel
theorem dX7_shortOne_13 : decode cX7_shortOne 13 = .ok (.aload_n 0, 1) := by decide +kernel
theorem dX7_shortOne_14 : decode cX7_shortOne 14 = .ok (.getfield 19, 3) := by decide +kernel
theorem dX7_shortOne_17 : decode cX7_shortOne 17 = .ok (.iload_n 1, 1) := by decide +kernel
theorem dX7_shortOne_18 : decode cX7_shortOne 18 = .ok (.invokevirtual 222, 3) := by decide +kernel
theorem dX7_shortOne_21 : decode cX7_shortOne 21 = .ok (.istore_n 2, 1) := by decide +kernel
theorem dX7_shortOne_22 : decode cX7_shortOne 22 = .ok (.iconst 0, 1) := by decide +kernel
theorem dX7_shortOne_23 : decode cX7_shortOne 23 = .ok (.istore_n 3, 1) := by decide +kernel
theorem dX7_shortOne_24 : decode cX7_shortOne 24 = .ok (.iload_n 3, 1) := by decide +kernel
theorem dX7_shortOne_25 : decode cX7_shortOne 25 = .ok (.aload_n 0, 1) := by decide +kernel
theorem dX7_shortOne_26 : decode cX7_shortOne 26 = .ok (.getfield 42, 3) := by decide +kernel
theorem dX7_shortOne_29 : decode cX7_shortOne 29 = .ok (.getfield 187, 3) := by decide +kernel
theorem dX7_shortOne_32 : decode cX7_shortOne 32 = .ok (.if_icmp .ge 40, 3) := by decide +kernel
theorem dX7_shortOne_35 : decode cX7_shortOne 35 = .ok (.aload_n 0, 1) := by decide +kernel
theorem dX7_shortOne_36 : decode cX7_shortOne 36 = .ok (.getfield 42, 3) := by decide +kernel
theorem dX7_shortOne_39 : decode cX7_shortOne 39 = .ok (.iload_n 2, 1) := by decide +kernel
theorem dX7_shortOne_40 : decode cX7_shortOne 40 = .ok (.iload_n 3, 1) := by decide +kernel
theorem dX7_shortOne_41 : decode cX7_shortOne 41 = .ok (.invokevirtual 209, 3) := by decide +kernel
theorem dX7_shortOne_44 : decode cX7_shortOne 44 = .ok (.ldc2_w 225, 3) := by decide +kernel
theorem dX7_shortOne_47 : decode cX7_shortOne 47 = .ok (.aload_n 0, 1) := by decide +kernel
theorem dX7_shortOne_48 : decode cX7_shortOne 48 = .ok (.getfield 42, 3) := by decide +kernel
theorem dX7_shortOne_51 : decode cX7_shortOne 51 = .ok (.invokevirtual 205, 3) := by decide +kernel
theorem dX7_shortOne_54 : decode cX7_shortOne 54 = .ok (.lmul, 1) := by decide +kernel
theorem dX7_shortOne_55 : decode cX7_shortOne 55 = .ok (.lcmp, 1) := by decide +kernel
theorem dX7_shortOne_56 : decode cX7_shortOne 56 = .ok (.ifCond .ge 10, 3) := by decide +kernel
theorem dX7_shortOne_59 : decode cX7_shortOne 59 = .ok (.bipush 100, 2) := by decide +kernel
theorem dX7_shortOne_61 : decode cX7_shortOne 61 = .ok (.iload_n 1, 1) := by decide +kernel
theorem dX7_shortOne_62 : decode cX7_shortOne 62 = .ok (.imul, 1) := by decide +kernel
theorem dX7_shortOne_63 : decode cX7_shortOne 63 = .ok (.iload_n 3, 1) := by decide +kernel
theorem dX7_shortOne_64 : decode cX7_shortOne 64 = .ok (.iadd, 1) := by decide +kernel
theorem dX7_shortOne_65 : decode cX7_shortOne 65 = .ok (.ireturn, 1) := by decide +kernel
theorem dX7_shortOne_66 : decode cX7_shortOne 66 = .ok (.iinc 3 1, 3) := by decide +kernel
theorem dX7_shortOne_69 : decode cX7_shortOne 69 = .ok (.goto (-45), 3) := by decide +kernel
theorem dX7_shortOne_72 : decode cX7_shortOne 72 = .ok (.iinc 1 1, 3) := by decide +kernel
theorem dX7_shortOne_75 : decode cX7_shortOne 75 = .ok (.goto (-73), 3) := by decide +kernel
theorem dX7_shortOne_78 : decode cX7_shortOne 78 = .ok (.bipush (-6), 2) := by decide +kernel
theorem dX7_shortOne_80 : decode cX7_shortOne 80 = .ok (.ireturn, 1) := by decide +kernel
set_option maxRecDepth 20000 in
theorem ggX7_heat_X7_within : GoodIn wsX7_heat wsX7_within := goodIn_r _ [7] (by decide +kernel) (by decide +kernel)
set_option maxRecDepth 20000 in
theorem gX7_heat_X7_within : GoodIn wsX7_heat (va_wsS RX7 62 yX7_within wsX7_within) := goodIn_app (goodIn_of _ (by decide +kernel)) ggX7_heat_X7_within
set_option maxRecDepth 20000 in
theorem ggX7_heat_X7_part : GoodIn wsX7_heat wsX7_part := goodIn_r _ [10, 11, 12, 13, 14, 15, 16, 17, 6, 18] (by decide +kernel) (by decide +kernel)
set_option maxRecDepth 20000 in
theorem gX7_heat_X7_part : GoodIn wsX7_heat (va_wsS RX7 154 yX7_part wsX7_part) := goodIn_app (goodIn_of _ (by decide +kernel)) ggX7_heat_X7_part
theorem dX7_heat_0 : decode cX7_heat 0 = .ok (.iload_n 1, 1) := by decide +kernel
theorem dX7_heat_1 : decode cX7_heat 1 = .ok (.iconst 0, 1) := by decide +kernel
theorem dX7_heat_2 : decode cX7_heat 2 = .ok (.sipush 8000, 3) := by decide +kernel
theorem dX7_heat_5 : decode cX7_heat 5 = .ok (.invokestatic 62, 3) := by decide +kernel
theorem dX7_heat_8 : decode cX7_heat 8 = .ok (.ifCond .eq 23, 3) := by decide +kernel
theorem dX7_heat_11 : decode cX7_heat 11 = .ok (.iload_n 2, 1) := by decide +kernel
theorem dX7_heat_12 : decode cX7_heat 12 = .ok (.bipush (-40), 2) := by decide +kernel
theorem dX7_heat_14 : decode cX7_heat 14 = .ok (.bipush 80, 2) := by decide +kernel
theorem dX7_heat_16 : decode cX7_heat 16 = .ok (.invokestatic 62, 3) := by decide +kernel
theorem dX7_heat_19 : decode cX7_heat 19 = .ok (.ifCond .eq 12, 3) := by decide +kernel
theorem dX7_heat_22 : decode cX7_heat 22 = .ok (.iload_n 3, 1) := by decide +kernel
theorem dX7_heat_23 : decode cX7_heat 23 = .ok (.iconst 0, 1) := by decide +kernel
theorem dX7_heat_24 : decode cX7_heat 24 = .ok (.iconst 1, 1) := by decide +kernel
theorem dX7_heat_25 : decode cX7_heat 25 = .ok (.invokestatic 62, 3) := by decide +kernel
theorem dX7_heat_28 : decode cX7_heat 28 = .ok (.ifCond .ne 7, 3) := by decide +kernel
theorem dX7_heat_31 : decode cX7_heat 31 = .ok (.ldc2_w 145, 3) := by decide +kernel
theorem dX7_heat_34 : decode cX7_heat 34 = .ok (.lreturn, 1) := by decide +kernel
theorem dX7_heat_35 : decode cX7_heat 35 = .ok (.iload_n 1, 1) := by decide +kernel
theorem dX7_heat_36 : decode cX7_heat 36 = .ok (.i2l, 1) := by decide +kernel
theorem dX7_heat_37 : decode cX7_heat 37 = .ok (.iload_n 2, 1) := by decide +kernel
theorem dX7_heat_38 : decode cX7_heat 38 = .ok (.bipush 10, 2) := by decide +kernel
theorem dX7_heat_40 : decode cX7_heat 40 = .ok (.isub, 1) := by decide +kernel
theorem dX7_heat_41 : decode cX7_heat 41 = .ok (.i2l, 1) := by decide +kernel
theorem dX7_heat_42 : decode cX7_heat 42 = .ok (.lmul, 1) := by decide +kernel
theorem dX7_heat_43 : decode cX7_heat 43 = .ok (.ldc2_w 227, 3) := by decide +kernel
theorem dX7_heat_46 : decode cX7_heat 46 = .ok (.lmul, 1) := by decide +kernel
theorem dX7_heat_47 : decode cX7_heat 47 = .ok (.ldc2_w 229, 3) := by decide +kernel
theorem dX7_heat_50 : decode cX7_heat 50 = .ok (.iload_n 3, 1) := by decide +kernel
theorem dX7_heat_51 : decode cX7_heat 51 = .ok (.invokestatic 154, 3) := by decide +kernel
theorem dX7_heat_54 : decode cX7_heat 54 = .ok (.lreturn, 1) := by decide +kernel
set_option maxRecDepth 20000 in
theorem ggX7_choose_X7_within : GoodIn wsX7_choose wsX7_within := goodIn_r _ [7] (by decide +kernel) (by decide +kernel)
set_option maxRecDepth 20000 in
theorem gX7_choose_X7_within : GoodIn wsX7_choose (va_wsS RX7 62 yX7_within wsX7_within) := goodIn_app (goodIn_of _ (by decide +kernel)) ggX7_choose_X7_within
set_option maxRecDepth 20000 in
theorem ggX7_choose_X1_findCheapest : GoodIn wsX7_choose wsX1_findCheapest := goodIn_r _ [12, 13, 14, 15, 16, 17, 18, 19, 20, 21, 11, 22, 23, 24, 25, 26, 27, 28, 29, 30, 31, 32, 33, 34, 35, 36, 37, 38, 39, 40, 41, 42, 43, 44, 45, 46, 47, 48, 49, 50, 51, 52, 53, 54, 55, 56, 57, 58, 59, 60, 61, 62, 63, 64, 65, 66, 67, 68, 69, 70, 71, 72, 73, 74, 75, 76, 77, 78, 79, 80, 81, 82, 83, 84, 85, 86, 87, 88, 89, 90, 91, 92, 93, 136, 137, 138, 139, 140, 141, 128, 129, 130, 131, 132, 133, 134, 135, 142, 143, 144, 145, 146, 147, 148, 149, 150, 151, 152, 153, 154, 155, 156, 157] (by decide +kernel) (by decide +kernel)
set_option maxRecDepth 20000 in
theorem gX7_choose_X1_findCheapest : GoodIn wsX7_choose (wsV RX7 231 RX1 yX1_findCheapest wsX1_findCheapest) := goodIn_app (goodIn_of _ (by decide +kernel)) ggX7_choose_X1_findCheapest
set_option maxRecDepth 20000 in
theorem ggX7_choose_X1_raiseFound : GoodIn wsX7_choose wsX1_raiseFound := goodIn_r _ [97, 14, 15, 16, 24, 98, 99, 100, 101, 102, 103, 104, 30, 31, 32, 11, 33, 13, 105, 106, 107, 108, 109, 110, 111, 112, 113, 114, 115, 136, 137, 138, 139, 140, 141, 128, 129, 130, 131, 132, 133, 134, 135] (by decide +kernel) (by decide +kernel)
set_option maxRecDepth 20000 in
theorem gX7_choose_X1_raiseFound : GoodIn wsX7_choose (wsV RX7 234 RX1 yX1_raiseFound wsX1_raiseFound) := goodIn_app (goodIn_of _ (by decide +kernel)) ggX7_choose_X1_raiseFound
set_option maxRecDepth 20000 in
theorem ggX7_choose_X2_priceOfMasts : GoodIn wsX7_choose wsX2_priceOfMasts := goodIn_r _ [119, 113, 120, 115, 128, 129, 130, 131, 132, 133, 134, 135] (by decide +kernel) (by decide +kernel)
set_option maxRecDepth 20000 in
theorem gX7_choose_X2_priceOfMasts : GoodIn wsX7_choose (wsV RX7 237 RX2 yX2_priceOfMasts wsX2_priceOfMasts) := goodIn_app (goodIn_of _ (by decide +kernel)) ggX7_choose_X2_priceOfMasts
theorem dX7_choose_0 : decode cX7_choose 0 = .ok (.iload_n 1, 1) := by decide +kernel
theorem dX7_choose_1 : decode cX7_choose 1 = .ok (.iconst 0, 1) := by decide +kernel
theorem dX7_choose_2 : decode cX7_choose 2 = .ok (.sipush 400, 3) := by decide +kernel
theorem dX7_choose_5 : decode cX7_choose 5 = .ok (.invokestatic 62, 3) := by decide +kernel
theorem dX7_choose_8 : decode cX7_choose 8 = .ok (.ifCond .ne 6, 3) := by decide +kernel
theorem dX7_choose_11 : decode cX7_choose 11 = .ok (.bipush (-2), 2) := by decide +kernel
theorem dX7_choose_13 : decode cX7_choose 13 = .ok (.ireturn, 1) := by decide +kernel
theorem dX7_choose_14 : decode cX7_choose 14 = .ok (.aload_n 0, 1) := by decide +kernel
theorem dX7_choose_15 : decode cX7_choose 15 = .ok (.getfield 19, 3) := by decide +kernel
theorem dX7_choose_18 : decode cX7_choose 18 = .ok (.getfield 66, 3) := by decide +kernel
theorem dX7_choose_21 : decode cX7_choose 21 = .ok (.iconst 2, 1) := by decide +kernel
theorem dX7_choose_22 : decode cX7_choose 22 = .ok (.if_icmp .ge 6, 3) := by decide +kernel
theorem dX7_choose_25 : decode cX7_choose 25 = .ok (.bipush (-3), 2) := by decide +kernel
theorem dX7_choose_27 : decode cX7_choose 27 = .ok (.ireturn, 1) := by decide +kernel
theorem dX7_choose_28 : decode cX7_choose 28 = .ok (.aload_n 0, 1) := by decide +kernel
theorem dX7_choose_29 : decode cX7_choose 29 = .ok (.getfield 51, 3) := by decide +kernel
theorem dX7_choose_32 : decode cX7_choose 32 = .ok (.iload_n 1, 1) := by decide +kernel
theorem dX7_choose_33 : decode cX7_choose 33 = .ok (.invokevirtual 231, 3) := by decide +kernel
theorem dX7_choose_36 : decode cX7_choose 36 = .ok (.ifCond .ne 6, 3) := by decide +kernel
theorem dX7_choose_39 : decode cX7_choose 39 = .ok (.bipush (-5), 2) := by decide +kernel
theorem dX7_choose_41 : decode cX7_choose 41 = .ok (.ireturn, 1) := by decide +kernel
theorem dX7_choose_42 : decode cX7_choose 42 = .ok (.aload_n 0, 1) := by decide +kernel
theorem dX7_choose_43 : decode cX7_choose 43 = .ok (.getfield 51, 3) := by decide +kernel
theorem dX7_choose_46 : decode cX7_choose 46 = .ok (.invokevirtual 234, 3) := by decide +kernel
theorem dX7_choose_49 : decode cX7_choose 49 = .ok (.aload_n 0, 1) := by decide +kernel
theorem dX7_choose_50 : decode cX7_choose 50 = .ok (.getfield 19, 3) := by decide +kernel
theorem dX7_choose_53 : decode cX7_choose 53 = .ok (.invokevirtual 237, 3) := by decide +kernel
theorem dX7_choose_56 : decode cX7_choose 56 = .ok (.ireturn, 1) := by decide +kernel
set_option maxRecDepth 20000 in
theorem ggX7_price_X2_priceOfMasts : GoodIn wsX7_price wsX2_priceOfMasts := goodIn_r _ [6, 7, 8, 9, 17, 18, 19, 20, 21, 22, 23, 24] (by decide +kernel) (by decide +kernel)
set_option maxRecDepth 20000 in
theorem gX7_price_X2_priceOfMasts : GoodIn wsX7_price (wsV RX7 237 RX2 yX2_priceOfMasts wsX2_priceOfMasts) := goodIn_app (goodIn_of _ (by decide +kernel)) ggX7_price_X2_priceOfMasts
theorem dX7_price_0 : decode cX7_price 0 = .ok (.aload_n 0, 1) := by decide +kernel
theorem dX7_price_1 : decode cX7_price 1 = .ok (.getfield 19, 3) := by decide +kernel
theorem dX7_price_4 : decode cX7_price 4 = .ok (.invokevirtual 237, 3) := by decide +kernel
theorem dX7_price_7 : decode cX7_price 7 = .ok (.ireturn, 1) := by decide +kernel
set_option maxRecDepth 20000 in
theorem ggX7_bars_X2_hasSpan : GoodIn wsX7_bars wsX2_hasSpan := goodIn_r _ [10, 11, 12, 13, 9, 14, 15, 107, 108, 109, 110, 111, 112, 113, 114] (by decide +kernel) (by decide +kernel)
set_option maxRecDepth 20000 in
theorem gX7_bars_X2_hasSpan : GoodIn wsX7_bars (wsV RX7 170 RX2 yX2_hasSpan wsX2_hasSpan) := goodIn_app (goodIn_of _ (by decide +kernel)) ggX7_bars_X2_hasSpan
set_option maxRecDepth 20000 in
theorem ggX7_bars_X7_within : GoodIn wsX7_bars wsX7_within := goodIn_r _ [19] (by decide +kernel) (by decide +kernel)
set_option maxRecDepth 20000 in
theorem gX7_bars_X7_within : GoodIn wsX7_bars (va_wsS RX7 62 yX7_within wsX7_within) := goodIn_app (goodIn_of _ (by decide +kernel)) ggX7_bars_X7_within
set_option maxRecDepth 20000 in
theorem ggX7_bars_X2_spanLength : GoodIn wsX7_bars wsX2_spanLength := goodIn_r _ [23, 24, 25, 26, 9, 27, 28, 29, 30, 31, 32, 33, 107, 108, 109, 110, 111, 112, 113, 114] (by decide +kernel) (by decide +kernel)
set_option maxRecDepth 20000 in
theorem gX7_bars_X2_spanLength : GoodIn wsX7_bars (wsV RX7 222 RX2 yX2_spanLength wsX2_spanLength) := goodIn_app (goodIn_of _ (by decide +kernel)) ggX7_bars_X2_spanLength
set_option maxRecDepth 20000 in
theorem ggX7_bars_X0_cutUp : GoodIn wsX7_bars wsX0_cutUp := goodIn_r _ [38, 39, 40, 41, 37, 42, 43, 44, 45, 46, 47, 48, 49, 50, 51, 52, 53, 54, 55, 56, 57, 58, 59, 60, 61, 62, 63, 64, 65, 66, 67, 68, 99, 100, 101, 102, 103] (by decide +kernel) (by decide +kernel)
set_option maxRecDepth 20000 in
theorem gX7_bars_X0_cutUp : GoodIn wsX7_bars (wsV RX7 213 RX0 yX0_cutUp wsX0_cutUp) := goodIn_app (goodIn_of _ (by decide +kernel)) ggX7_bars_X0_cutUp
set_option maxRecDepth 20000 in
theorem ggX7_bars_X3_take : GoodIn wsX7_bars wsX3_take := goodIn_r _ [73, 74, 75, 104, 105, 106] (by decide +kernel) (by decide +kernel)
set_option maxRecDepth 20000 in
theorem gX7_bars_X3_take : GoodIn wsX7_bars (wsV RX7 241 RX3 yX3_take wsX3_take) := goodIn_app (goodIn_of _ (by decide +kernel)) ggX7_bars_X3_take
set_option maxRecDepth 20000 in
theorem ggX7_bars_X3_fewestBars : GoodIn wsX7_bars wsX3_fewestBars := goodIn_r _ [79, 74, 80, 81, 82, 83, 84, 85, 72, 86, 87, 75, 88, 56, 57, 58, 89, 90, 91, 104, 105, 106] (by decide +kernel) (by decide +kernel)
set_option maxRecDepth 20000 in
theorem gX7_bars_X3_fewestBars : GoodIn wsX7_bars (wsV RX7 244 RX3 yX3_fewestBars wsX3_fewestBars) := goodIn_app (goodIn_of _ (by decide +kernel)) ggX7_bars_X3_fewestBars
theorem dX7_bars_0 : decode cX7_bars 0 = .ok (.aload_n 0, 1) := by decide +kernel
theorem dX7_bars_1 : decode cX7_bars 1 = .ok (.getfield 19, 3) := by decide +kernel
theorem dX7_bars_4 : decode cX7_bars 4 = .ok (.iload_n 1, 1) := by decide +kernel
theorem dX7_bars_5 : decode cX7_bars 5 = .ok (.invokevirtual 170, 3) := by decide +kernel
theorem dX7_bars_8 : decode cX7_bars 8 = .ok (.ifCond .eq 19, 3) := by decide +kernel
theorem dX7_bars_11 : decode cX7_bars 11 = .ok (.aload_n 0, 1) := by decide +kernel
theorem dX7_bars_12 : decode cX7_bars 12 = .ok (.getfield 19, 3) := by decide +kernel
theorem dX7_bars_15 : decode cX7_bars 15 = .ok (.iload_n 2, 1) := by decide +kernel
theorem dX7_bars_16 : decode cX7_bars 16 = .ok (.invokevirtual 170, 3) := by decide +kernel
theorem dX7_bars_19 : decode cX7_bars 19 = .ok (.ifCond .eq 8, 3) := by decide +kernel
theorem dX7_bars_22 : decode cX7_bars 22 = .ok (.iload_n 2, 1) := by decide +kernel
theorem dX7_bars_23 : decode cX7_bars 23 = .ok (.iload_n 1, 1) := by decide +kernel
theorem dX7_bars_24 : decode cX7_bars 24 = .ok (.if_icmp .ge 5, 3) := by decide +kernel
theorem dX7_bars_27 : decode cX7_bars 27 = .ok (.iconst (-1), 1) := by decide +kernel
theorem dX7_bars_28 : decode cX7_bars 28 = .ok (.ireturn, 1) := by decide +kernel
theorem dX7_bars_29 : decode cX7_bars 29 = .ok (.iload_n 3, 1) := by decide +kernel
theorem dX7_bars_30 : decode cX7_bars 30 = .ok (.bipush 100, 2) := by decide +kernel
theorem dX7_bars_32 : decode cX7_bars 32 = .ok (.sipush 20000, 3) := by decide +kernel
theorem dX7_bars_35 : decode cX7_bars 35 = .ok (.invokestatic 62, 3) := by decide +kernel
theorem dX7_bars_38 : decode cX7_bars 38 = .ok (.ifCond .ne 6, 3) := by decide +kernel
theorem dX7_bars_41 : decode cX7_bars 41 = .ok (.bipush (-2), 2) := by decide +kernel
theorem dX7_bars_43 : decode cX7_bars 43 = .ok (.ireturn, 1) := by decide +kernel
theorem dX7_bars_44 : decode cX7_bars 44 = .ok (.iload_n 2, 1) := by decide +kernel
theorem dX7_bars_45 : decode cX7_bars 45 = .ok (.iload_n 1, 1) := by decide +kernel
theorem dX7_bars_46 : decode cX7_bars 46 = .ok (.isub, 1) := by decide +kernel
theorem dX7_bars_47 : decode cX7_bars 47 = .ok (.iconst 1, 1) := by decide +kernel
theorem dX7_bars_48 : decode cX7_bars 48 = .ok (.iadd, 1) := by decide +kernel
theorem dX7_bars_49 : decode cX7_bars 49 = .ok (.aload_n 0, 1) := by decide +kernel
theorem dX7_bars_50 : decode cX7_bars 50 = .ok (.getfield 42, 3) := by decide +kernel
theorem dX7_bars_53 : decode cX7_bars 53 = .ok (.getfield 187, 3) := by decide +kernel
theorem dX7_bars_56 : decode cX7_bars 56 = .ok (.imul, 1) := by decide +kernel
theorem dX7_bars_57 : decode cX7_bars 57 = .ok (.bipush 14, 2) := by decide +kernel
theorem dX7_bars_59 : decode cX7_bars 59 = .ok (.if_icmp .le 6, 3) := by decide +kernel
theorem dX7_bars_62 : decode cX7_bars 62 = .ok (.bipush (-4), 2) := by decide +kernel
theorem dX7_bars_64 : decode cX7_bars 64 = .ok (.ireturn, 1) := by decide +kernel
theorem dX7_bars_65 : decode cX7_bars 65 = .ok (.aload_n 0, 1) := by decide +kernel
theorem dX7_bars_66 : decode cX7_bars 66 = .ok (.getfield 58, 3) := by decide +kernel
theorem dX7_bars_69 : decode cX7_bars 69 = .ok (.iconst 0, 1) := by decide +kernel
theorem dX7_bars_70 : decode cX7_bars 70 = .ok (.putfield 240, 3) := by decide +kernel
theorem dX7_bars_73 : decode cX7_bars 73 = .ok (.iload_n 1, 1) := by decide +kernel
theorem dX7_bars_74 : decode cX7_bars 74 = .ok (.istore 4, 2) := by decide +kernel
theorem dX7_bars_76 : decode cX7_bars 76 = .ok (.iload 4, 2) := by decide +kernel
theorem dX7_bars_78 : decode cX7_bars 78 = .ok (.iload_n 2, 1) := by decide +kernel
theorem dX7_bars_79 : decode cX7_bars 79 = .ok (.if_icmp .gt 74, 3) := by decide +kernel
theorem dX7_bars_82 : decode cX7_bars 82 = .ok (.iconst 0, 1) := by decide +kernel
theorem dX7_bars_83 : decode cX7_bars 83 = .ok (.istore 5, 2) := by decide +kernel
theorem dX7_bars_85 : decode cX7_bars 85 = .ok (.iload 5, 2) := by decide +kernel
theorem dX7_bars_87 : decode cX7_bars 87 = .ok (.aload_n 0, 1) := by decide +kernel
theorem dX7_bars_88 : decode cX7_bars 88 = .ok (.getfield 42, 3) := by decide +kernel
theorem dX7_bars_91 : decode cX7_bars 91 = .ok (.getfield 187, 3) := by decide +kernel
theorem dX7_bars_94 : decode cX7_bars 94 = .ok (.if_icmp .ge 53, 3) := by decide +kernel
theorem dX7_bars_97 : decode cX7_bars 97 = .ok (.aload_n 0, 1) := by decide +kernel
theorem dX7_bars_98 : decode cX7_bars 98 = .ok (.getfield 42, 3) := by decide +kernel
theorem dX7_bars_101 : decode cX7_bars 101 = .ok (.aload_n 0, 1) := by decide +kernel
theorem dX7_bars_102 : decode cX7_bars 102 = .ok (.getfield 19, 3) := by decide +kernel
theorem dX7_bars_105 : decode cX7_bars 105 = .ok (.iload 4, 2) := by decide +kernel
theorem dX7_bars_107 : decode cX7_bars 107 = .ok (.invokevirtual 222, 3) := by decide +kernel
theorem dX7_bars_110 : decode cX7_bars 110 = .ok (.iload 5, 2) := by decide +kernel
theorem dX7_bars_112 : decode cX7_bars 112 = .ok (.invokevirtual 213, 3) := by decide +kernel
theorem dX7_bars_115 : decode cX7_bars 115 = .ok (.istore 6, 2) := by decide +kernel
theorem dX7_bars_117 : decode cX7_bars 117 = .ok (.iload 6, 2) := by decide +kernel
theorem dX7_bars_119 : decode cX7_bars 119 = .ok (.iconst 1, 1) := by decide +kernel
theorem dX7_bars_120 : decode cX7_bars 120 = .ok (.if_icmp .lt 9, 3) := by decide +kernel
theorem dX7_bars_123 : decode cX7_bars 123 = .ok (.iload 6, 2) := by decide +kernel
theorem dX7_bars_125 : decode cX7_bars 125 = .ok (.iload_n 3, 1) := by decide +kernel
theorem dX7_bars_126 : decode cX7_bars 126 = .ok (.if_icmp .le 6, 3) := by decide +kernel
theorem dX7_bars_129 : decode cX7_bars 129 = .ok (.bipush (-5), 2) := by decide +kernel
theorem dX7_bars_131 : decode cX7_bars 131 = .ok (.ireturn, 1) := by decide +kernel
theorem dX7_bars_132 : decode cX7_bars 132 = .ok (.aload_n 0, 1) := by decide +kernel
theorem dX7_bars_133 : decode cX7_bars 133 = .ok (.getfield 58, 3) := by decide +kernel
theorem dX7_bars_136 : decode cX7_bars 136 = .ok (.iload 6, 2) := by decide +kernel
theorem dX7_bars_138 : decode cX7_bars 138 = .ok (.invokevirtual 241, 3) := by decide +kernel
theorem dX7_bars_141 : decode cX7_bars 141 = .ok (.iinc 5 1, 3) := by decide +kernel
theorem dX7_bars_144 : decode cX7_bars 144 = .ok (.goto (-59), 3) := by decide +kernel
theorem dX7_bars_147 : decode cX7_bars 147 = .ok (.iinc 4 1, 3) := by decide +kernel
theorem dX7_bars_150 : decode cX7_bars 150 = .ok (.goto (-74), 3) := by decide +kernel
theorem dX7_bars_153 : decode cX7_bars 153 = .ok (.aload_n 0, 1) := by decide +kernel
theorem dX7_bars_154 : decode cX7_bars 154 = .ok (.getfield 58, 3) := by decide +kernel
theorem dX7_bars_157 : decode cX7_bars 157 = .ok (.iload_n 3, 1) := by decide +kernel
theorem dX7_bars_158 : decode cX7_bars 158 = .ok (.invokevirtual 244, 3) := by decide +kernel
theorem dX7_bars_161 : decode cX7_bars 161 = .ok (.ireturn, 1) := by decide +kernel
set_option maxRecDepth 20000 in
theorem ggX7_told_X2_spans : GoodIn wsX7_told wsX2_spans := goodIn_r _ [13, 14, 42, 43, 44, 45, 46, 47, 48, 49] (by decide +kernel) (by decide +kernel)
set_option maxRecDepth 20000 in
theorem gX7_told_X2_spans : GoodIn wsX7_told (wsV RX7 161 RX2 yX2_spans wsX2_spans) := goodIn_app (goodIn_of _ (by decide +kernel)) ggX7_told_X2_spans
set_option maxRecDepth 20000 in
theorem ggX7_told_X2_lengthOfSpans : GoodIn wsX7_told wsX2_lengthOfSpans := goodIn_r _ [18, 19, 10, 11, 12, 13, 14, 20, 21, 22, 23, 24, 25, 26, 27, 28, 29, 42, 43, 44, 45, 46, 47, 48, 49] (by decide +kernel) (by decide +kernel)
set_option maxRecDepth 20000 in
theorem gX7_told_X2_lengthOfSpans : GoodIn wsX7_told (wsV RX7 247 RX2 yX2_lengthOfSpans wsX2_lengthOfSpans) := goodIn_app (goodIn_of _ (by decide +kernel)) ggX7_told_X2_lengthOfSpans
theorem dX7_told_0 : decode cX7_told 0 = .ok (.iload_n 1, 1) := by decide +kernel
theorem dX7_told_1 : decode cX7_told 1 = .ok (.tableswitch 99 0 6 #[43, 51, 59, 67, 75, 83, 91], 43) := by decide +kernel
theorem dX7_told_44 : decode cX7_told 44 = .ok (.aload_n 0, 1) := by decide +kernel
theorem dX7_told_45 : decode cX7_told 45 = .ok (.getfield 10, 3) := by decide +kernel
theorem dX7_told_48 : decode cX7_told 48 = .ok (.getfield 73, 3) := by decide +kernel
theorem dX7_told_51 : decode cX7_told 51 = .ok (.ireturn, 1) := by decide +kernel
theorem dX7_told_52 : decode cX7_told 52 = .ok (.aload_n 0, 1) := by decide +kernel
theorem dX7_told_53 : decode cX7_told 53 = .ok (.getfield 19, 3) := by decide +kernel
theorem dX7_told_56 : decode cX7_told 56 = .ok (.getfield 66, 3) := by decide +kernel
theorem dX7_told_59 : decode cX7_told 59 = .ok (.ireturn, 1) := by decide +kernel
theorem dX7_told_60 : decode cX7_told 60 = .ok (.aload_n 0, 1) := by decide +kernel
theorem dX7_told_61 : decode cX7_told 61 = .ok (.getfield 19, 3) := by decide +kernel
theorem dX7_told_64 : decode cX7_told 64 = .ok (.getfield 94, 3) := by decide +kernel
theorem dX7_told_67 : decode cX7_told 67 = .ok (.ireturn, 1) := by decide +kernel
theorem dX7_told_68 : decode cX7_told 68 = .ok (.aload_n 0, 1) := by decide +kernel
theorem dX7_told_69 : decode cX7_told 69 = .ok (.getfield 19, 3) := by decide +kernel
theorem dX7_told_72 : decode cX7_told 72 = .ok (.invokevirtual 161, 3) := by decide +kernel
theorem dX7_told_75 : decode cX7_told 75 = .ok (.ireturn, 1) := by decide +kernel
theorem dX7_told_76 : decode cX7_told 76 = .ok (.aload_n 0, 1) := by decide +kernel
theorem dX7_told_77 : decode cX7_told 77 = .ok (.getfield 42, 3) := by decide +kernel
theorem dX7_told_80 : decode cX7_told 80 = .ok (.getfield 187, 3) := by decide +kernel
theorem dX7_told_83 : decode cX7_told 83 = .ok (.ireturn, 1) := by decide +kernel
theorem dX7_told_84 : decode cX7_told 84 = .ok (.aload_n 0, 1) := by decide +kernel
theorem dX7_told_85 : decode cX7_told 85 = .ok (.getfield 10, 3) := by decide +kernel
theorem dX7_told_88 : decode cX7_told 88 = .ok (.getfield 70, 3) := by decide +kernel
theorem dX7_told_91 : decode cX7_told 91 = .ok (.ireturn, 1) := by decide +kernel
theorem dX7_told_92 : decode cX7_told 92 = .ok (.aload_n 0, 1) := by decide +kernel
theorem dX7_told_93 : decode cX7_told 93 = .ok (.getfield 19, 3) := by decide +kernel
theorem dX7_told_96 : decode cX7_told 96 = .ok (.invokevirtual 247, 3) := by decide +kernel
theorem dX7_told_99 : decode cX7_told 99 = .ok (.ireturn, 1) := by decide +kernel
theorem dX7_told_100 : decode cX7_told 100 = .ok (.bipush (-2), 2) := by decide +kernel
theorem dX7_told_102 : decode cX7_told 102 = .ok (.ireturn, 1) := by decide +kernel
theorem dX7_within_0 : decode cX7_within 0 = .ok (.iload_n 0, 1) := by decide +kernel
theorem dX7_within_1 : decode cX7_within 1 = .ok (.iload_n 1, 1) := by decide +kernel
theorem dX7_within_2 : decode cX7_within 2 = .ok (.if_icmp .lt 12, 3) := by decide +kernel
theorem dX7_within_5 : decode cX7_within 5 = .ok (.iload_n 0, 1) := by decide +kernel
theorem dX7_within_6 : decode cX7_within 6 = .ok (.iload_n 2, 1) := by decide +kernel
theorem dX7_within_7 : decode cX7_within 7 = .ok (.if_icmp .gt 7, 3) := by decide +kernel
theorem dX7_within_10 : decode cX7_within 10 = .ok (.iconst 1, 1) := by decide +kernel
theorem dX7_within_11 : decode cX7_within 11 = .ok (.goto 4, 3) := by decide +kernel
theorem dX7_within_14 : decode cX7_within 14 = .ok (.iconst 0, 1) := by decide +kernel
theorem dX7_within_15 : decode cX7_within 15 = .ok (.ireturn, 1) := by decide +kernel
set_option maxRecDepth 20000 in
theorem ggX7_laySpan_X4_lay : GoodIn wsX7_laySpan wsX4_lay := goodIn_r _ [9, 10, 11, 12, 13, 14, 15, 16, 32, 33, 34, 35, 36, 37, 38, 24, 25, 26, 27, 28, 29, 30, 31] (by decide +kernel) (by decide +kernel)
set_option maxRecDepth 20000 in
theorem gX7_laySpan_X4_lay : GoodIn wsX7_laySpan (wsV RX7 253 RX4 yX4_lay wsX4_lay) := goodIn_app (goodIn_of _ (by decide +kernel)) ggX7_laySpan_X4_lay
theorem dX7_laySpan_0 : decode cX7_laySpan 0 = .ok (.aload_n 0, 1) := by decide +kernel
theorem dX7_laySpan_1 : decode cX7_laySpan 1 = .ok (.getfield 19, 3) := by decide +kernel
theorem dX7_laySpan_4 : decode cX7_laySpan 4 = .ok (.getfield 250, 3) := by decide +kernel
theorem dX7_laySpan_7 : decode cX7_laySpan 7 = .ok (.iload_n 1, 1) := by decide +kernel
theorem dX7_laySpan_8 : decode cX7_laySpan 8 = .ok (.iaload, 1) := by decide +kernel
theorem dX7_laySpan_9 : decode cX7_laySpan 9 = .ok (.istore_n 2, 1) := by decide +kernel
theorem dX7_laySpan_10 : decode cX7_laySpan 10 = .ok (.aload_n 0, 1) := by decide +kernel
theorem dX7_laySpan_11 : decode cX7_laySpan 11 = .ok (.getfield 19, 3) := by decide +kernel
theorem dX7_laySpan_14 : decode cX7_laySpan 14 = .ok (.getfield 250, 3) := by decide +kernel
theorem dX7_laySpan_17 : decode cX7_laySpan 17 = .ok (.iload_n 1, 1) := by decide +kernel
theorem dX7_laySpan_18 : decode cX7_laySpan 18 = .ok (.iconst 1, 1) := by decide +kernel
theorem dX7_laySpan_19 : decode cX7_laySpan 19 = .ok (.iadd, 1) := by decide +kernel
theorem dX7_laySpan_20 : decode cX7_laySpan 20 = .ok (.iaload, 1) := by decide +kernel
theorem dX7_laySpan_21 : decode cX7_laySpan 21 = .ok (.istore_n 3, 1) := by decide +kernel
theorem dX7_laySpan_22 : decode cX7_laySpan 22 = .ok (.aload_n 0, 1) := by decide +kernel
theorem dX7_laySpan_23 : decode cX7_laySpan 23 = .ok (.getfield 35, 3) := by decide +kernel
theorem dX7_laySpan_26 : decode cX7_laySpan 26 = .ok (.iload_n 2, 1) := by decide +kernel
theorem dX7_laySpan_27 : decode cX7_laySpan 27 = .ok (.aload_n 0, 1) := by decide +kernel
theorem dX7_laySpan_28 : decode cX7_laySpan 28 = .ok (.getfield 19, 3) := by decide +kernel
theorem dX7_laySpan_31 : decode cX7_laySpan 31 = .ok (.getfield 127, 3) := by decide +kernel
theorem dX7_laySpan_34 : decode cX7_laySpan 34 = .ok (.iload_n 2, 1) := by decide +kernel
theorem dX7_laySpan_35 : decode cX7_laySpan 35 = .ok (.iaload, 1) := by decide +kernel
theorem dX7_laySpan_36 : decode cX7_laySpan 36 = .ok (.iload_n 3, 1) := by decide +kernel
theorem dX7_laySpan_37 : decode cX7_laySpan 37 = .ok (.aload_n 0, 1) := by decide +kernel
theorem dX7_laySpan_38 : decode cX7_laySpan 38 = .ok (.getfield 19, 3) := by decide +kernel
theorem dX7_laySpan_41 : decode cX7_laySpan 41 = .ok (.getfield 127, 3) := by decide +kernel
theorem dX7_laySpan_44 : decode cX7_laySpan 44 = .ok (.iload_n 3, 1) := by decide +kernel
theorem dX7_laySpan_45 : decode cX7_laySpan 45 = .ok (.iaload, 1) := by decide +kernel
theorem dX7_laySpan_46 : decode cX7_laySpan 46 = .ok (.invokevirtual 253, 3) := by decide +kernel
theorem dX7_laySpan_49 : decode cX7_laySpan 49 = .ok (.return_, 1) := by decide +kernel
set_option maxRecDepth 20000 in
theorem ggX7_laySpanOver_X2_spans : GoodIn wsX7_laySpanOver wsX2_spans := goodIn_r _ [6, 7, 45, 46, 47, 48, 49, 50, 51, 52] (by decide +kernel) (by decide +kernel)
set_option maxRecDepth 20000 in
theorem gX7_laySpanOver_X2_spans : GoodIn wsX7_laySpanOver (wsV RX7 161 RX2 yX2_spans wsX2_spans) := goodIn_app (goodIn_of _ (by decide +kernel)) ggX7_laySpanOver_X2_spans
set_option maxRecDepth 20000 in
theorem ggX7_laySpanOver_X2_spanBegin : GoodIn wsX7_laySpanOver wsX2_spanBegin := goodIn_r _ [11, 12, 13, 45, 46, 47, 48, 49, 50, 51, 52] (by decide +kernel) (by decide +kernel)
set_option maxRecDepth 20000 in
theorem gX7_laySpanOver_X2_spanBegin : GoodIn wsX7_laySpanOver (wsV RX7 257 RX2 yX2_spanBegin wsX2_spanBegin) := goodIn_app (goodIn_of _ (by decide +kernel)) ggX7_laySpanOver_X2_spanBegin
set_option maxRecDepth 20000 in
theorem ggX7_laySpanOver_X2_spanEnd : GoodIn wsX7_laySpanOver wsX2_spanEnd := goodIn_r _ [17, 12, 13, 45, 46, 47, 48, 49, 50, 51, 52] (by decide +kernel) (by decide +kernel)
set_option maxRecDepth 20000 in
theorem gX7_laySpanOver_X2_spanEnd : GoodIn wsX7_laySpanOver (wsV RX7 260 RX2 yX2_spanEnd wsX2_spanEnd) := goodIn_app (goodIn_of _ (by decide +kernel)) ggX7_laySpanOver_X2_spanEnd
set_option maxRecDepth 20000 in
theorem ggX7_laySpanOver_X7_laySpan : GoodIn wsX7_laySpanOver wsX7_laySpan := goodIn_r _ [22, 1, 23, 24, 25, 26, 27, 28, 29, 30, 31, 32, 33, 34, 35, 36, 37, 38, 39, 40, 41, 42, 43, 44, 45, 46, 47, 48, 49, 50, 51, 52, 53, 54, 55, 56, 57, 58, 59] (by decide +kernel) (by decide +kernel)
set_option maxRecDepth 20000 in
theorem gX7_laySpanOver_X7_laySpan : GoodIn wsX7_laySpanOver (wsV RX7 164 RX7 yX7_laySpan wsX7_laySpan) := goodIn_app (goodIn_of _ (by decide +kernel)) ggX7_laySpanOver_X7_laySpan
theorem dX7_laySpanOver_0 : decode cX7_laySpanOver 0 = .ok (.iconst 0, 1) := by decide +kernel
theorem dX7_laySpanOver_1 : decode cX7_laySpanOver 1 = .ok (.istore_n 2, 1) := by decide +kernel
theorem dX7_laySpanOver_2 : decode cX7_laySpanOver 2 = .ok (.iload_n 2, 1) := by decide +kernel
theorem dX7_laySpanOver_3 : decode cX7_laySpanOver 3 = .ok (.aload_n 0, 1) := by decide +kernel
theorem dX7_laySpanOver_4 : decode cX7_laySpanOver 4 = .ok (.getfield 19, 3) := by decide +kernel
theorem dX7_laySpanOver_7 : decode cX7_laySpanOver 7 = .ok (.invokevirtual 161, 3) := by decide +kernel
theorem dX7_laySpanOver_10 : decode cX7_laySpanOver 10 = .ok (.if_icmp .ge 40, 3) := by decide +kernel
theorem dX7_laySpanOver_13 : decode cX7_laySpanOver 13 = .ok (.iload_n 1, 1) := by decide +kernel
theorem dX7_laySpanOver_14 : decode cX7_laySpanOver 14 = .ok (.aload_n 0, 1) := by decide +kernel
theorem dX7_laySpanOver_15 : decode cX7_laySpanOver 15 = .ok (.getfield 19, 3) := by decide +kernel
theorem dX7_laySpanOver_18 : decode cX7_laySpanOver 18 = .ok (.iload_n 2, 1) := by decide +kernel
theorem dX7_laySpanOver_19 : decode cX7_laySpanOver 19 = .ok (.invokevirtual 257, 3) := by decide +kernel
theorem dX7_laySpanOver_22 : decode cX7_laySpanOver 22 = .ok (.if_icmp .lt 22, 3) := by decide +kernel
theorem dX7_laySpanOver_25 : decode cX7_laySpanOver 25 = .ok (.iload_n 1, 1) := by decide +kernel
theorem dX7_laySpanOver_26 : decode cX7_laySpanOver 26 = .ok (.aload_n 0, 1) := by decide +kernel
theorem dX7_laySpanOver_27 : decode cX7_laySpanOver 27 = .ok (.getfield 19, 3) := by decide +kernel
theorem dX7_laySpanOver_30 : decode cX7_laySpanOver 30 = .ok (.iload_n 2, 1) := by decide +kernel
theorem dX7_laySpanOver_31 : decode cX7_laySpanOver 31 = .ok (.invokevirtual 260, 3) := by decide +kernel
theorem dX7_laySpanOver_34 : decode cX7_laySpanOver 34 = .ok (.if_icmp .gt 10, 3) := by decide +kernel
theorem dX7_laySpanOver_37 : decode cX7_laySpanOver 37 = .ok (.aload_n 0, 1) := by decide +kernel
theorem dX7_laySpanOver_38 : decode cX7_laySpanOver 38 = .ok (.iload_n 2, 1) := by decide +kernel
theorem dX7_laySpanOver_39 : decode cX7_laySpanOver 39 = .ok (.invokevirtual 164, 3) := by decide +kernel
theorem dX7_laySpanOver_42 : decode cX7_laySpanOver 42 = .ok (.iconst 1, 1) := by decide +kernel
theorem dX7_laySpanOver_43 : decode cX7_laySpanOver 43 = .ok (.ireturn, 1) := by decide +kernel
theorem dX7_laySpanOver_44 : decode cX7_laySpanOver 44 = .ok (.iinc 2 1, 3) := by decide +kernel
theorem dX7_laySpanOver_47 : decode cX7_laySpanOver 47 = .ok (.goto (-45), 3) := by decide +kernel
theorem dX7_laySpanOver_50 : decode cX7_laySpanOver 50 = .ok (.iconst 0, 1) := by decide +kernel
theorem dX7_laySpanOver_51 : decode cX7_laySpanOver 51 = .ok (.ireturn, 1) := by decide +kernel
set_option maxRecDepth 20000 in
theorem ggX7_refusalOfDropper_X7_within : GoodIn wsX7_refusalOfDropper wsX7_within := goodIn_r _ [6] (by decide +kernel) (by decide +kernel)
set_option maxRecDepth 20000 in
theorem gX7_refusalOfDropper_X7_within : GoodIn wsX7_refusalOfDropper (va_wsS RX7 62 yX7_within wsX7_within) := goodIn_app (goodIn_of _ (by decide +kernel)) ggX7_refusalOfDropper_X7_within
theorem dX7_refusalOfDropper_0 : decode cX7_refusalOfDropper 0 = .ok (.iload_n 2, 1) := by decide +kernel
theorem dX7_refusalOfDropper_1 : decode cX7_refusalOfDropper 1 = .ok (.ifCond .lt 14, 3) := by decide +kernel
theorem dX7_refusalOfDropper_4 : decode cX7_refusalOfDropper 4 = .ok (.iload_n 2, 1) := by decide +kernel
theorem dX7_refusalOfDropper_5 : decode cX7_refusalOfDropper 5 = .ok (.aload_n 0, 1) := by decide +kernel
theorem dX7_refusalOfDropper_6 : decode cX7_refusalOfDropper 6 = .ok (.getfield 42, 3) := by decide +kernel
theorem dX7_refusalOfDropper_9 : decode cX7_refusalOfDropper 9 = .ok (.getfield 187, 3) := by decide +kernel
theorem dX7_refusalOfDropper_12 : decode cX7_refusalOfDropper 12 = .ok (.if_icmp .lt 5, 3) := by decide +kernel
theorem dX7_refusalOfDropper_15 : decode cX7_refusalOfDropper 15 = .ok (.iconst (-1), 1) := by decide +kernel
theorem dX7_refusalOfDropper_16 : decode cX7_refusalOfDropper 16 = .ok (.ireturn, 1) := by decide +kernel
theorem dX7_refusalOfDropper_17 : decode cX7_refusalOfDropper 17 = .ok (.iload_n 1, 1) := by decide +kernel
theorem dX7_refusalOfDropper_18 : decode cX7_refusalOfDropper 18 = .ok (.iconst 1, 1) := by decide +kernel
theorem dX7_refusalOfDropper_19 : decode cX7_refusalOfDropper 19 = .ok (.sipush 800, 3) := by decide +kernel
theorem dX7_refusalOfDropper_22 : decode cX7_refusalOfDropper 22 = .ok (.invokestatic 62, 3) := by decide +kernel
theorem dX7_refusalOfDropper_25 : decode cX7_refusalOfDropper 25 = .ok (.ifCond .eq 12, 3) := by decide +kernel
theorem dX7_refusalOfDropper_28 : decode cX7_refusalOfDropper 28 = .ok (.iload_n 3, 1) := by decide +kernel
theorem dX7_refusalOfDropper_29 : decode cX7_refusalOfDropper 29 = .ok (.iconst 0, 1) := by decide +kernel
theorem dX7_refusalOfDropper_30 : decode cX7_refusalOfDropper 30 = .ok (.iconst 1, 1) := by decide +kernel
theorem dX7_refusalOfDropper_31 : decode cX7_refusalOfDropper 31 = .ok (.invokestatic 62, 3) := by decide +kernel
theorem dX7_refusalOfDropper_34 : decode cX7_refusalOfDropper 34 = .ok (.ifCond .ne 6, 3) := by decide +kernel
theorem dX7_refusalOfDropper_37 : decode cX7_refusalOfDropper 37 = .ok (.bipush (-2), 2) := by decide +kernel
theorem dX7_refusalOfDropper_39 : decode cX7_refusalOfDropper 39 = .ok (.ireturn, 1) := by decide +kernel
theorem dX7_refusalOfDropper_40 : decode cX7_refusalOfDropper 40 = .ok (.iconst 0, 1) := by decide +kernel
theorem dX7_refusalOfDropper_41 : decode cX7_refusalOfDropper 41 = .ok (.ireturn, 1) := by decide +kernel
set_option maxRecDepth 20000 in
theorem ggX7_part_X7_commonDivisor : GoodIn wsX7_part wsX7_commonDivisor := goodIn_r _ [9] (by decide +kernel) (by decide +kernel)
set_option maxRecDepth 20000 in
theorem gX7_part_X7_commonDivisor : GoodIn wsX7_part (va_wsS RX7 269 yX7_commonDivisor wsX7_commonDivisor) := goodIn_app (goodIn_of _ (by decide +kernel)) ggX7_part_X7_commonDivisor
theorem dX7_part_0 : decode cX7_part 0 = .ok (.lload_n 0, 1) := by decide +kernel
theorem dX7_part_1 : decode cX7_part 1 = .ok (.invokestatic 263, 3) := by decide +kernel
theorem dX7_part_4 : decode cX7_part 4 = .ok (.lload_n 2, 1) := by decide +kernel
theorem dX7_part_5 : decode cX7_part 5 = .ok (.invokestatic 269, 3) := by decide +kernel
theorem dX7_part_8 : decode cX7_part 8 = .ok (.lstore 5, 2) := by decide +kernel
theorem dX7_part_10 : decode cX7_part 10 = .ok (.lload 5, 2) := by decide +kernel
theorem dX7_part_12 : decode cX7_part 12 = .ok (.lconst 0, 1) := by decide +kernel
theorem dX7_part_13 : decode cX7_part 13 = .ok (.lcmp, 1) := by decide +kernel
theorem dX7_part_14 : decode cX7_part 14 = .ok (.ifCond .ne 7, 3) := by decide +kernel
theorem dX7_part_17 : decode cX7_part 17 = .ok (.ldc2_w 199, 3) := by decide +kernel
theorem dX7_part_20 : decode cX7_part 20 = .ok (.lreturn, 1) := by decide +kernel
theorem dX7_part_21 : decode cX7_part 21 = .ok (.iload 4, 2) := by decide +kernel
theorem dX7_part_23 : decode cX7_part 23 = .ok (.ifCond .ne 10, 3) := by decide +kernel
theorem dX7_part_26 : decode cX7_part 26 = .ok (.lload_n 0, 1) := by decide +kernel
theorem dX7_part_27 : decode cX7_part 27 = .ok (.lload 5, 2) := by decide +kernel
theorem dX7_part_29 : decode cX7_part 29 = .ok (.ldiv, 1) := by decide +kernel
theorem dX7_part_30 : decode cX7_part 30 = .ok (.goto 7, 3) := by decide +kernel
theorem dX7_part_33 : decode cX7_part 33 = .ok (.lload_n 2, 1) := by decide +kernel
theorem dX7_part_34 : decode cX7_part 34 = .ok (.lload 5, 2) := by decide +kernel
theorem dX7_part_36 : decode cX7_part 36 = .ok (.ldiv, 1) := by decide +kernel
theorem dX7_part_37 : decode cX7_part 37 = .ok (.lreturn, 1) := by decide +kernel
theorem dX7_commonDivisor_0 : decode cX7_commonDivisor 0 = .ok (.iconst 0, 1) := by decide +kernel
theorem dX7_commonDivisor_1 : decode cX7_commonDivisor 1 = .ok (.istore 4, 2) := by decide +kernel
theorem dX7_commonDivisor_3 : decode cX7_commonDivisor 3 = .ok (.iload 4, 2) := by decide +kernel
theorem dX7_commonDivisor_5 : decode cX7_commonDivisor 5 = .ok (.bipush 100, 2) := by decide +kernel
theorem dX7_commonDivisor_7 : decode cX7_commonDivisor 7 = .ok (.if_icmp .ge 25, 3) := by decide +kernel
theorem dX7_commonDivisor_10 : decode cX7_commonDivisor 10 = .ok (.lload_n 2, 1) := by decide +kernel
theorem dX7_commonDivisor_11 : decode cX7_commonDivisor 11 = .ok (.lconst 0, 1) := by decide +kernel
theorem dX7_commonDivisor_12 : decode cX7_commonDivisor 12 = .ok (.lcmp, 1) := by decide +kernel
theorem dX7_commonDivisor_13 : decode cX7_commonDivisor 13 = .ok (.ifCond .eq 19, 3) := by decide +kernel
theorem dX7_commonDivisor_16 : decode cX7_commonDivisor 16 = .ok (.lload_n 0, 1) := by decide +kernel
theorem dX7_commonDivisor_17 : decode cX7_commonDivisor 17 = .ok (.lload_n 2, 1) := by decide +kernel
theorem dX7_commonDivisor_18 : decode cX7_commonDivisor 18 = .ok (.lrem, 1) := by decide +kernel
theorem dX7_commonDivisor_19 : decode cX7_commonDivisor 19 = .ok (.lstore 5, 2) := by decide +kernel
theorem dX7_commonDivisor_21 : decode cX7_commonDivisor 21 = .ok (.lload_n 2, 1) := by decide +kernel
theorem dX7_commonDivisor_22 : decode cX7_commonDivisor 22 = .ok (.lstore_n 0, 1) := by decide +kernel
theorem dX7_commonDivisor_23 : decode cX7_commonDivisor 23 = .ok (.lload 5, 2) := by decide +kernel
theorem dX7_commonDivisor_25 : decode cX7_commonDivisor 25 = .ok (.lstore_n 2, 1) := by decide +kernel
theorem dX7_commonDivisor_26 : decode cX7_commonDivisor 26 = .ok (.iinc 4 1, 3) := by decide +kernel
theorem dX7_commonDivisor_29 : decode cX7_commonDivisor 29 = .ok (.goto (-26), 3) := by decide +kernel
theorem dX7_commonDivisor_32 : decode cX7_commonDivisor 32 = .ok (.lload_n 0, 1) := by decide +kernel
theorem dX7_commonDivisor_33 : decode cX7_commonDivisor 33 = .ok (.lreturn, 1) := by decide +kernel
theorem dX8_init_0 : decode cX8_init 0 = .ok (.aload_n 0, 1) := by decide +kernel
theorem dX8_init_1 : decode cX8_init 1 = .ok (.invokespecial 1, 3) := by decide +kernel
theorem dX8_init_4 : decode cX8_init 4 = .ok (.aload_n 0, 1) := by decide +kernel
theorem dX8_init_5 : decode cX8_init 5 = .ok (.sipush 1000, 3) := by decide +kernel
theorem dX8_init_8 : decode cX8_init 8 = .ok (.putfield 7, 3) := by decide +kernel
theorem dX8_init_11 : decode cX8_init 11 = .ok (.aload_n 0, 1) := by decide +kernel
theorem dX8_init_12 : decode cX8_init 12 = .ok (.bipush 8, 2) := by decide +kernel
theorem dX8_init_14 : decode cX8_init 14 = .ok (.newarray .int, 2) := by decide +kernel
theorem dX8_init_16 : decode cX8_init 16 = .ok (.putfield 13, 3) := by decide +kernel
theorem dX8_init_19 : decode cX8_init 19 = .ok (.aload_n 0, 1) := by decide +kernel
theorem dX8_init_20 : decode cX8_init 20 = .ok (.bipush 8, 2) := by decide +kernel
theorem dX8_init_22 : decode cX8_init 22 = .ok (.newarray .int, 2) := by decide +kernel
theorem dX8_init_24 : decode cX8_init 24 = .ok (.putfield 17, 3) := by decide +kernel
theorem dX8_init_27 : decode cX8_init 27 = .ok (.aload_n 0, 1) := by decide +kernel
theorem dX8_init_28 : decode cX8_init 28 = .ok (.bipush 8, 2) := by decide +kernel
theorem dX8_init_30 : decode cX8_init 30 = .ok (.newarray .int, 2) := by decide +kernel
theorem dX8_init_32 : decode cX8_init 32 = .ok (.putfield 20, 3) := by decide +kernel
theorem dX8_init_35 : decode cX8_init 35 = .ok (.aload_n 0, 1) := by decide +kernel
theorem dX8_init_36 : decode cX8_init 36 = .ok (.sipush 4001, 3) := by decide +kernel
theorem dX8_init_39 : decode cX8_init 39 = .ok (.newarray .long, 2) := by decide +kernel
theorem dX8_init_41 : decode cX8_init 41 = .ok (.putfield 23, 3) := by decide +kernel
theorem dX8_init_44 : decode cX8_init 44 = .ok (.aload_n 0, 1) := by decide +kernel
theorem dX8_init_45 : decode cX8_init 45 = .ok (.bipush 40, 2) := by decide +kernel
theorem dX8_init_47 : decode cX8_init 47 = .ok (.newarray .int, 2) := by decide +kernel
theorem dX8_init_49 : decode cX8_init 49 = .ok (.putfield 27, 3) := by decide +kernel
theorem dX8_init_52 : decode cX8_init 52 = .ok (.aload_n 0, 1) := by decide +kernel
theorem dX8_init_53 : decode cX8_init 53 = .ok (.bipush 40, 2) := by decide +kernel
theorem dX8_init_55 : decode cX8_init 55 = .ok (.newarray .int, 2) := by decide +kernel
theorem dX8_init_57 : decode cX8_init 57 = .ok (.putfield 30, 3) := by decide +kernel
theorem dX8_init_60 : decode cX8_init 60 = .ok (.aload_n 0, 1) := by decide +kernel
theorem dX8_init_61 : decode cX8_init 61 = .ok (.bipush 40, 2) := by decide +kernel
theorem dX8_init_63 : decode cX8_init 63 = .ok (.newarray .boolean, 2) := by decide +kernel
theorem dX8_init_65 : decode cX8_init 65 = .ok (.putfield 33, 3) := by decide +kernel
theorem dX8_init_68 : decode cX8_init 68 = .ok (.aload_n 0, 1) := by decide +kernel
theorem dX8_init_69 : decode cX8_init 69 = .ok (.bipush 40, 2) := by decide +kernel
theorem dX8_init_71 : decode cX8_init 71 = .ok (.newarray .int, 2) := by decide +kernel
theorem dX8_init_73 : decode cX8_init 73 = .ok (.putfield 37, 3) := by decide +kernel
theorem dX8_init_76 : decode cX8_init 76 = .ok (.aload_n 0, 1) := by decide +kernel
theorem dX8_init_77 : decode cX8_init 77 = .ok (.sipush 10000, 3) := by decide +kernel
theorem dX8_init_80 : decode cX8_init 80 = .ok (.putfield 40, 3) := by decide +kernel
theorem dX8_init_83 : decode cX8_init 83 = .ok (.aload_n 0, 1) := by decide +kernel
theorem dX8_init_84 : decode cX8_init 84 = .ok (.sipush 400, 3) := by decide +kernel
theorem dX8_init_87 : decode cX8_init 87 = .ok (.putfield 43, 3) := by decide +kernel
theorem dX8_init_90 : decode cX8_init 90 = .ok (.aload_n 0, 1) := by decide +kernel
theorem dX8_init_91 : decode cX8_init 91 = .ok (.sipush 600, 3) := by decide +kernel
theorem dX8_init_94 : decode cX8_init 94 = .ok (.putfield 46, 3) := by decide +kernel
theorem dX8_init_97 : decode cX8_init 97 = .ok (.aload_n 0, 1) := by decide +kernel
theorem dX8_init_98 : decode cX8_init 98 = .ok (.sipush 10000, 3) := by decide +kernel
theorem dX8_init_101 : decode cX8_init 101 = .ok (.putfield 49, 3) := by decide +kernel
theorem dX8_init_104 : decode cX8_init 104 = .ok (.aload_n 0, 1) := by decide +kernel
theorem dX8_init_105 : decode cX8_init 105 = .ok (.bipush 10, 2) := by decide +kernel
theorem dX8_init_107 : decode cX8_init 107 = .ok (.putfield 52, 3) := by decide +kernel
theorem dX8_init_110 : decode cX8_init 110 = .ok (.aload_n 0, 1) := by decide +kernel
theorem dX8_init_111 : decode cX8_init 111 = .ok (.iconst 4, 1) := by decide +kernel
theorem dX8_init_112 : decode cX8_init 112 = .ok (.putfield 55, 3) := by decide +kernel
theorem dX8_init_115 : decode cX8_init 115 = .ok (.aload_n 0, 1) := by decide +kernel
theorem dX8_init_116 : decode cX8_init 116 = .ok (.bipush 100, 2) := by decide +kernel
theorem dX8_init_118 : decode cX8_init 118 = .ok (.putfield 58, 3) := by decide +kernel
theorem dX8_init_121 : decode cX8_init 121 = .ok (.aload_n 0, 1) := by decide +kernel
theorem dX8_init_122 : decode cX8_init 122 = .ok (.sipush 1400, 3) := by decide +kernel
theorem dX8_init_125 : decode cX8_init 125 = .ok (.putfield 61, 3) := by decide +kernel
theorem dX8_init_128 : decode cX8_init 128 = .ok (.aload_n 0, 1) := by decide +kernel
theorem dX8_init_129 : decode cX8_init 129 = .ok (.bipush 120, 2) := by decide +kernel
theorem dX8_init_131 : decode cX8_init 131 = .ok (.newarray .int, 2) := by decide +kernel
theorem dX8_init_133 : decode cX8_init 133 = .ok (.putfield 64, 3) := by decide +kernel
theorem dX8_init_136 : decode cX8_init 136 = .ok (.aload_n 0, 1) := by decide +kernel
theorem dX8_init_137 : decode cX8_init 137 = .ok (.sipush 14400, 3) := by decide +kernel
theorem dX8_init_140 : decode cX8_init 140 = .ok (.newarray .boolean, 2) := by decide +kernel
theorem dX8_init_142 : decode cX8_init 142 = .ok (.putfield 67, 3) := by decide +kernel
theorem dX8_init_145 : decode cX8_init 145 = .ok (.aload_n 0, 1) := by decide +kernel
theorem dX8_init_146 : decode cX8_init 146 = .ok (.bipush 14, 2) := by decide +kernel
theorem dX8_init_148 : decode cX8_init 148 = .ok (.newarray .int, 2) := by decide +kernel
theorem dX8_init_150 : decode cX8_init 150 = .ok (.putfield 70, 3) := by decide +kernel
theorem dX8_init_153 : decode cX8_init 153 = .ok (.aload_n 0, 1) := by decide +kernel
theorem dX8_init_154 : decode cX8_init 154 = .ok (.sipush 16384, 3) := by decide +kernel
theorem dX8_init_157 : decode cX8_init 157 = .ok (.newarray .int, 2) := by decide +kernel
theorem dX8_init_159 : decode cX8_init 159 = .ok (.putfield 73, 3) := by decide +kernel
theorem dX8_init_162 : decode cX8_init 162 = .ok (.aload_n 0, 1) := by decide +kernel
theorem dX8_init_163 : decode cX8_init 163 = .ok (.sipush 16384, 3) := by decide +kernel
theorem dX8_init_166 : decode cX8_init 166 = .ok (.newarray .int, 2) := by decide +kernel
theorem dX8_init_168 : decode cX8_init 168 = .ok (.putfield 76, 3) := by decide +kernel
theorem dX8_init_171 : decode cX8_init 171 = .ok (.return_, 1) := by decide +kernel
theorem dX8_in_0 : decode cX8_in 0 = .ok (.iload_n 0, 1) := by decide +kernel
theorem dX8_in_1 : decode cX8_in 1 = .ok (.iload_n 1, 1) := by decide +kernel
theorem dX8_in_2 : decode cX8_in 2 = .ok (.if_icmp .lt 12, 3) := by decide +kernel
theorem dX8_in_5 : decode cX8_in 5 = .ok (.iload_n 0, 1) := by decide +kernel
theorem dX8_in_6 : decode cX8_in 6 = .ok (.iload_n 2, 1) := by decide +kernel
theorem dX8_in_7 : decode cX8_in 7 = .ok (.if_icmp .gt 7, 3) := by decide +kernel
theorem dX8_in_10 : decode cX8_in 10 = .ok (.iconst 1, 1) := by decide +kernel
theorem dX8_in_11 : decode cX8_in 11 = .ok (.goto 4, 3) := by decide +kernel
theorem dX8_in_14 : decode cX8_in 14 = .ok (.iconst 0, 1) := by decide +kernel
theorem dX8_in_15 : decode cX8_in 15 = .ok (.ireturn, 1) := by decide +kernel
set_option maxRecDepth 20000 in
theorem ggX8_length_X8_in : GoodIn wsX8_length wsX8_in := goodIn_r _ [8] (by decide +kernel) (by decide +kernel)
set_option maxRecDepth 20000 in
theorem gX8_length_X8_in : GoodIn wsX8_length (va_wsS RX8 79 yX8_in wsX8_in) := goodIn_app (goodIn_of _ (by decide +kernel)) ggX8_length_X8_in
theorem dX8_length_0 : decode cX8_length 0 = .ok (.iload_n 1, 1) := by decide +kernel
theorem dX8_length_1 : decode cX8_length 1 = .ok (.bipush 100, 2) := by decide +kernel
