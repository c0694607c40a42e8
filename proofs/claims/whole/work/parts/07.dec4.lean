theorem dX8_worst_31 : decode cX8_worst 31 = .ok (.iinc 1 1, 3) := by decide +kernel
theorem dX8_worst_34 : decode cX8_worst 34 = .ok (.goto (-32), 3) := by decide +kernel
theorem dX8_worst_37 : decode cX8_worst 37 = .ok (.bipush (-6), 2) := by decide +kernel
theorem dX8_worst_39 : decode cX8_worst 39 = .ok (.ireturn, 1) := by decide +kernel
theorem dX8_endOf_0 : decode cX8_endOf 0 = .ok (.iconst (-1), 1) := by decide +kernel
theorem dX8_endOf_1 : decode cX8_endOf 1 = .ok (.istore_n 2, 1) := by decide +kernel
theorem dX8_endOf_2 : decode cX8_endOf 2 = .ok (.iconst 0, 1) := by decide +kernel
theorem dX8_endOf_3 : decode cX8_endOf 3 = .ok (.istore_n 3, 1) := by decide +kernel
theorem dX8_endOf_4 : decode cX8_endOf 4 = .ok (.iload_n 3, 1) := by decide +kernel
theorem dX8_endOf_5 : decode cX8_endOf 5 = .ok (.aload_n 0, 1) := by decide +kernel
theorem dX8_endOf_6 : decode cX8_endOf 6 = .ok (.getfield 83, 3) := by decide +kernel
theorem dX8_endOf_9 : decode cX8_endOf 9 = .ok (.if_icmp .ge 44, 3) := by decide +kernel
theorem dX8_endOf_12 : decode cX8_endOf 12 = .ok (.iload_n 2, 1) := by decide +kernel
theorem dX8_endOf_13 : decode cX8_endOf 13 = .ok (.aload_n 0, 1) := by decide +kernel
theorem dX8_endOf_14 : decode cX8_endOf 14 = .ok (.getfield 33, 3) := by decide +kernel
theorem dX8_endOf_17 : decode cX8_endOf 17 = .ok (.iload_n 3, 1) := by decide +kernel
theorem dX8_endOf_18 : decode cX8_endOf 18 = .ok (.baload, 1) := by decide +kernel
theorem dX8_endOf_19 : decode cX8_endOf 19 = .ok (.ifCond .eq 7, 3) := by decide +kernel
theorem dX8_endOf_22 : decode cX8_endOf 22 = .ok (.iconst 1, 1) := by decide +kernel
theorem dX8_endOf_23 : decode cX8_endOf 23 = .ok (.goto 4, 3) := by decide +kernel
theorem dX8_endOf_26 : decode cX8_endOf 26 = .ok (.iconst 0, 1) := by decide +kernel
theorem dX8_endOf_27 : decode cX8_endOf 27 = .ok (.iadd, 1) := by decide +kernel
theorem dX8_endOf_28 : decode cX8_endOf 28 = .ok (.istore_n 2, 1) := by decide +kernel
theorem dX8_endOf_29 : decode cX8_endOf 29 = .ok (.aload_n 0, 1) := by decide +kernel
theorem dX8_endOf_30 : decode cX8_endOf 30 = .ok (.getfield 33, 3) := by decide +kernel
theorem dX8_endOf_33 : decode cX8_endOf 33 = .ok (.iload_n 3, 1) := by decide +kernel
theorem dX8_endOf_34 : decode cX8_endOf 34 = .ok (.baload, 1) := by decide +kernel
theorem dX8_endOf_35 : decode cX8_endOf 35 = .ok (.ifCond .eq 12, 3) := by decide +kernel
theorem dX8_endOf_38 : decode cX8_endOf 38 = .ok (.iload_n 2, 1) := by decide +kernel
theorem dX8_endOf_39 : decode cX8_endOf 39 = .ok (.iload_n 1, 1) := by decide +kernel
theorem dX8_endOf_40 : decode cX8_endOf 40 = .ok (.iconst 1, 1) := by decide +kernel
theorem dX8_endOf_41 : decode cX8_endOf 41 = .ok (.iadd, 1) := by decide +kernel
theorem dX8_endOf_42 : decode cX8_endOf 42 = .ok (.if_icmp .ne 5, 3) := by decide +kernel
theorem dX8_endOf_45 : decode cX8_endOf 45 = .ok (.iload_n 3, 1) := by decide +kernel
theorem dX8_endOf_46 : decode cX8_endOf 46 = .ok (.ireturn, 1) := by decide +kernel
theorem dX8_endOf_47 : decode cX8_endOf 47 = .ok (.iinc 3 1, 3) := by decide +kernel
theorem dX8_endOf_50 : decode cX8_endOf 50 = .ok (.goto (-46), 3) := by decide +kernel
theorem dX8_endOf_53 : decode cX8_endOf 53 = .ok (.bipush (-6), 2) := by decide +kernel
theorem dX8_endOf_55 : decode cX8_endOf 55 = .ok (.ireturn, 1) := by decide +kernel
set_option maxRecDepth 20000 in
theorem ggX8_spanKept_X8_endOf : GoodIn wsX8_spanKept wsX8_endOf := goodIn_r _ [7, 8, 9, 46, 47, 48, 49, 50, 51, 52, 53, 54, 55, 56, 57, 58, 59, 60, 61, 62, 63, 64, 65, 66, 67, 68, 69, 70, 71, 72] (by decide +kernel) (by decide +kernel)
set_option maxRecDepth 20000 in
theorem gX8_spanKept_X8_endOf : GoodIn wsX8_spanKept (wsV RX8 147 RX8 yX8_endOf wsX8_endOf) := goodIn_app (goodIn_of _ (by decide +kernel)) ggX8_spanKept_X8_endOf
set_option maxRecDepth 20000 in
theorem ggX8_spanKept_X8_mastBefore : GoodIn wsX8_spanKept wsX8_mastBefore := goodIn_r _ [13, 9, 46, 47, 48, 49, 50, 51, 52, 53, 54, 55, 56, 57, 58, 59, 60, 61, 62, 63, 64, 65, 66, 67, 68, 69, 70, 71, 72] (by decide +kernel) (by decide +kernel)
set_option maxRecDepth 20000 in
theorem gX8_spanKept_X8_mastBefore : GoodIn wsX8_spanKept (wsV RX8 136 RX8 yX8_mastBefore wsX8_mastBefore) := goodIn_app (goodIn_of _ (by decide +kernel)) ggX8_spanKept_X8_mastBefore
set_option maxRecDepth 20000 in
theorem ggX8_spanKept_X8_isSpanKept : GoodIn wsX8_spanKept wsX8_isSpanKept := goodIn_r _ [17, 18, 19, 20, 21, 6, 22, 23, 24, 25, 26, 27, 28, 29, 30, 31, 32, 33, 34, 35, 36, 37, 38, 39, 40, 41, 42, 43, 44, 45, 46, 47, 48, 49, 50, 51, 52, 53, 54, 55, 56, 57, 58, 59, 60, 61, 62, 63, 64, 65, 66, 67, 68, 69, 70, 71, 72] (by decide +kernel) (by decide +kernel)
set_option maxRecDepth 20000 in
theorem gX8_spanKept_X8_isSpanKept : GoodIn wsX8_spanKept (wsV RX8 150 RX8 yX8_isSpanKept wsX8_isSpanKept) := goodIn_app (goodIn_of _ (by decide +kernel)) ggX8_spanKept_X8_isSpanKept
theorem dX8_spanKept_0 : decode cX8_spanKept 0 = .ok (.iload_n 1, 1) := by decide +kernel
theorem dX8_spanKept_1 : decode cX8_spanKept 1 = .ok (.ifCond .ge 8, 3) := by decide +kernel
theorem dX8_spanKept_4 : decode cX8_spanKept 4 = .ok (.bipush (-6), 2) := by decide +kernel
theorem dX8_spanKept_6 : decode cX8_spanKept 6 = .ok (.goto 8, 3) := by decide +kernel
theorem dX8_spanKept_9 : decode cX8_spanKept 9 = .ok (.aload_n 0, 1) := by decide +kernel
theorem dX8_spanKept_10 : decode cX8_spanKept 10 = .ok (.iload_n 1, 1) := by decide +kernel
theorem dX8_spanKept_11 : decode cX8_spanKept 11 = .ok (.invokevirtual 147, 3) := by decide +kernel
theorem dX8_spanKept_14 : decode cX8_spanKept 14 = .ok (.istore_n 2, 1) := by decide +kernel
theorem dX8_spanKept_15 : decode cX8_spanKept 15 = .ok (.iload_n 2, 1) := by decide +kernel
theorem dX8_spanKept_16 : decode cX8_spanKept 16 = .ok (.ifCond .ge 5, 3) := by decide +kernel
theorem dX8_spanKept_19 : decode cX8_spanKept 19 = .ok (.iconst (-1), 1) := by decide +kernel
theorem dX8_spanKept_20 : decode cX8_spanKept 20 = .ok (.ireturn, 1) := by decide +kernel
theorem dX8_spanKept_21 : decode cX8_spanKept 21 = .ok (.aload_n 0, 1) := by decide +kernel
theorem dX8_spanKept_22 : decode cX8_spanKept 22 = .ok (.iload_n 2, 1) := by decide +kernel
theorem dX8_spanKept_23 : decode cX8_spanKept 23 = .ok (.invokevirtual 136, 3) := by decide +kernel
theorem dX8_spanKept_26 : decode cX8_spanKept 26 = .ok (.istore_n 3, 1) := by decide +kernel
theorem dX8_spanKept_27 : decode cX8_spanKept 27 = .ok (.aload_n 0, 1) := by decide +kernel
theorem dX8_spanKept_28 : decode cX8_spanKept 28 = .ok (.aload_n 0, 1) := by decide +kernel
theorem dX8_spanKept_29 : decode cX8_spanKept 29 = .ok (.getfield 27, 3) := by decide +kernel
theorem dX8_spanKept_32 : decode cX8_spanKept 32 = .ok (.iload_n 3, 1) := by decide +kernel
theorem dX8_spanKept_33 : decode cX8_spanKept 33 = .ok (.iaload, 1) := by decide +kernel
theorem dX8_spanKept_34 : decode cX8_spanKept 34 = .ok (.aload_n 0, 1) := by decide +kernel
theorem dX8_spanKept_35 : decode cX8_spanKept 35 = .ok (.getfield 37, 3) := by decide +kernel
theorem dX8_spanKept_38 : decode cX8_spanKept 38 = .ok (.iload_n 3, 1) := by decide +kernel
theorem dX8_spanKept_39 : decode cX8_spanKept 39 = .ok (.iaload, 1) := by decide +kernel
theorem dX8_spanKept_40 : decode cX8_spanKept 40 = .ok (.aload_n 0, 1) := by decide +kernel
theorem dX8_spanKept_41 : decode cX8_spanKept 41 = .ok (.getfield 27, 3) := by decide +kernel
theorem dX8_spanKept_44 : decode cX8_spanKept 44 = .ok (.iload_n 2, 1) := by decide +kernel
theorem dX8_spanKept_45 : decode cX8_spanKept 45 = .ok (.iaload, 1) := by decide +kernel
theorem dX8_spanKept_46 : decode cX8_spanKept 46 = .ok (.aload_n 0, 1) := by decide +kernel
theorem dX8_spanKept_47 : decode cX8_spanKept 47 = .ok (.getfield 37, 3) := by decide +kernel
theorem dX8_spanKept_50 : decode cX8_spanKept 50 = .ok (.iload_n 2, 1) := by decide +kernel
theorem dX8_spanKept_51 : decode cX8_spanKept 51 = .ok (.iaload, 1) := by decide +kernel
theorem dX8_spanKept_52 : decode cX8_spanKept 52 = .ok (.invokevirtual 150, 3) := by decide +kernel
theorem dX8_spanKept_55 : decode cX8_spanKept 55 = .ok (.ifCond .eq 7, 3) := by decide +kernel
theorem dX8_spanKept_58 : decode cX8_spanKept 58 = .ok (.iconst 1, 1) := by decide +kernel
theorem dX8_spanKept_59 : decode cX8_spanKept 59 = .ok (.goto 4, 3) := by decide +kernel
theorem dX8_spanKept_62 : decode cX8_spanKept 62 = .ok (.iconst 0, 1) := by decide +kernel
theorem dX8_spanKept_63 : decode cX8_spanKept 63 = .ok (.ireturn, 1) := by decide +kernel
set_option maxRecDepth 20000 in
theorem ggX8_ways_X8_isPeg : GoodIn wsX8_ways wsX8_isPeg := goodIn_r _ [6, 7, 8, 9, 5, 10, 43, 44, 45, 46, 47, 48, 49, 50, 51, 52, 53, 54, 55, 56, 57, 58, 59, 60, 61, 62, 63, 64, 65, 66, 67, 68, 69] (by decide +kernel) (by decide +kernel)
set_option maxRecDepth 20000 in
theorem gX8_ways_X8_isPeg : GoodIn wsX8_ways (wsV RX8 106 RX8 yX8_isPeg wsX8_isPeg) := goodIn_app (goodIn_of _ (by decide +kernel)) ggX8_ways_X8_isPeg
set_option maxRecDepth 20000 in
theorem ggX8_ways_X8_in : GoodIn wsX8_ways wsX8_in := goodIn_r _ [10] (by decide +kernel) (by decide +kernel)
set_option maxRecDepth 20000 in
theorem gX8_ways_X8_in : GoodIn wsX8_ways (va_wsS RX8 79 yX8_in wsX8_in) := goodIn_app (goodIn_of _ (by decide +kernel)) ggX8_ways_X8_in
set_option maxRecDepth 20000 in
theorem ggX8_ways_X8_isSpanKept : GoodIn wsX8_ways wsX8_isSpanKept := goodIn_r _ [14, 15, 16, 17, 18, 5, 19, 20, 21, 22, 23, 24, 25, 26, 27, 28, 29, 30, 31, 32, 33, 34, 35, 36, 37, 38, 39, 40, 41, 42, 43, 44, 45, 46, 47, 48, 49, 50, 51, 52, 53, 54, 55, 56, 57, 58, 59, 60, 61, 62, 63, 64, 65, 66, 67, 68, 69] (by decide +kernel) (by decide +kernel)
set_option maxRecDepth 20000 in
theorem gX8_ways_X8_isSpanKept : GoodIn wsX8_ways (wsV RX8 150 RX8 yX8_isSpanKept wsX8_isSpanKept) := goodIn_app (goodIn_of _ (by decide +kernel)) ggX8_ways_X8_isSpanKept
theorem dX8_ways_0 : decode cX8_ways 0 = .ok (.aload_n 0, 1) := by decide +kernel
theorem dX8_ways_1 : decode cX8_ways 1 = .ok (.iload_n 1, 1) := by decide +kernel
theorem dX8_ways_2 : decode cX8_ways 2 = .ok (.invokevirtual 106, 3) := by decide +kernel
theorem dX8_ways_5 : decode cX8_ways 5 = .ok (.ifCond .eq 11, 3) := by decide +kernel
theorem dX8_ways_8 : decode cX8_ways 8 = .ok (.aload_n 0, 1) := by decide +kernel
theorem dX8_ways_9 : decode cX8_ways 9 = .ok (.iload_n 2, 1) := by decide +kernel
theorem dX8_ways_10 : decode cX8_ways 10 = .ok (.invokevirtual 106, 3) := by decide +kernel
theorem dX8_ways_13 : decode cX8_ways 13 = .ok (.ifCond .ne 5, 3) := by decide +kernel
theorem dX8_ways_16 : decode cX8_ways 16 = .ok (.iconst (-1), 1) := by decide +kernel
theorem dX8_ways_17 : decode cX8_ways 17 = .ok (.ireturn, 1) := by decide +kernel
theorem dX8_ways_18 : decode cX8_ways 18 = .ok (.iload_n 3, 1) := by decide +kernel
theorem dX8_ways_19 : decode cX8_ways 19 = .ok (.iconst 0, 1) := by decide +kernel
theorem dX8_ways_20 : decode cX8_ways 20 = .ok (.sipush 400, 3) := by decide +kernel
theorem dX8_ways_23 : decode cX8_ways 23 = .ok (.invokestatic 79, 3) := by decide +kernel
theorem dX8_ways_26 : decode cX8_ways 26 = .ok (.ifCond .ne 6, 3) := by decide +kernel
theorem dX8_ways_29 : decode cX8_ways 29 = .ok (.bipush (-2), 2) := by decide +kernel
theorem dX8_ways_31 : decode cX8_ways 31 = .ok (.ireturn, 1) := by decide +kernel
theorem dX8_ways_32 : decode cX8_ways 32 = .ok (.iload_n 1, 1) := by decide +kernel
theorem dX8_ways_33 : decode cX8_ways 33 = .ok (.iload_n 2, 1) := by decide +kernel
theorem dX8_ways_34 : decode cX8_ways 34 = .ok (.if_icmp .lt 6, 3) := by decide +kernel
theorem dX8_ways_37 : decode cX8_ways 37 = .ok (.bipush (-5), 2) := by decide +kernel
theorem dX8_ways_39 : decode cX8_ways 39 = .ok (.ireturn, 1) := by decide +kernel
theorem dX8_ways_40 : decode cX8_ways 40 = .ok (.iconst 0, 1) := by decide +kernel
theorem dX8_ways_41 : decode cX8_ways 41 = .ok (.istore 4, 2) := by decide +kernel
theorem dX8_ways_43 : decode cX8_ways 43 = .ok (.iconst (-1), 1) := by decide +kernel
theorem dX8_ways_44 : decode cX8_ways 44 = .ok (.istore 5, 2) := by decide +kernel
theorem dX8_ways_46 : decode cX8_ways 46 = .ok (.iload 5, 2) := by decide +kernel
theorem dX8_ways_48 : decode cX8_ways 48 = .ok (.iconst 1, 1) := by decide +kernel
theorem dX8_ways_49 : decode cX8_ways 49 = .ok (.if_icmp .gt 61, 3) := by decide +kernel
theorem dX8_ways_52 : decode cX8_ways 52 = .ok (.iconst (-1), 1) := by decide +kernel
theorem dX8_ways_53 : decode cX8_ways 53 = .ok (.istore 6, 2) := by decide +kernel
theorem dX8_ways_55 : decode cX8_ways 55 = .ok (.iload 6, 2) := by decide +kernel
theorem dX8_ways_57 : decode cX8_ways 57 = .ok (.iconst 1, 1) := by decide +kernel
theorem dX8_ways_58 : decode cX8_ways 58 = .ok (.if_icmp .gt 46, 3) := by decide +kernel
theorem dX8_ways_61 : decode cX8_ways 61 = .ok (.iload 4, 2) := by decide +kernel
theorem dX8_ways_63 : decode cX8_ways 63 = .ok (.aload_n 0, 1) := by decide +kernel
theorem dX8_ways_64 : decode cX8_ways 64 = .ok (.aload_n 0, 1) := by decide +kernel
theorem dX8_ways_65 : decode cX8_ways 65 = .ok (.getfield 27, 3) := by decide +kernel
theorem dX8_ways_68 : decode cX8_ways 68 = .ok (.iload_n 1, 1) := by decide +kernel
theorem dX8_ways_69 : decode cX8_ways 69 = .ok (.iaload, 1) := by decide +kernel
theorem dX8_ways_70 : decode cX8_ways 70 = .ok (.iload 5, 2) := by decide +kernel
theorem dX8_ways_72 : decode cX8_ways 72 = .ok (.iload_n 3, 1) := by decide +kernel
theorem dX8_ways_73 : decode cX8_ways 73 = .ok (.imul, 1) := by decide +kernel
theorem dX8_ways_74 : decode cX8_ways 74 = .ok (.aload_n 0, 1) := by decide +kernel
theorem dX8_ways_75 : decode cX8_ways 75 = .ok (.getfield 27, 3) := by decide +kernel
theorem dX8_ways_78 : decode cX8_ways 78 = .ok (.iload_n 2, 1) := by decide +kernel
theorem dX8_ways_79 : decode cX8_ways 79 = .ok (.iaload, 1) := by decide +kernel
theorem dX8_ways_80 : decode cX8_ways 80 = .ok (.iload 6, 2) := by decide +kernel
theorem dX8_ways_82 : decode cX8_ways 82 = .ok (.iload_n 3, 1) := by decide +kernel
theorem dX8_ways_83 : decode cX8_ways 83 = .ok (.imul, 1) := by decide +kernel
theorem dX8_ways_84 : decode cX8_ways 84 = .ok (.invokevirtual 150, 3) := by decide +kernel
theorem dX8_ways_87 : decode cX8_ways 87 = .ok (.ifCond .eq 7, 3) := by decide +kernel
theorem dX8_ways_90 : decode cX8_ways 90 = .ok (.iconst 1, 1) := by decide +kernel
theorem dX8_ways_91 : decode cX8_ways 91 = .ok (.goto 4, 3) := by decide +kernel
theorem dX8_ways_94 : decode cX8_ways 94 = .ok (.iconst 0, 1) := by decide +kernel
theorem dX8_ways_95 : decode cX8_ways 95 = .ok (.iadd, 1) := by decide +kernel
theorem dX8_ways_96 : decode cX8_ways 96 = .ok (.istore 4, 2) := by decide +kernel
theorem dX8_ways_98 : decode cX8_ways 98 = .ok (.iinc 6 1, 3) := by decide +kernel
theorem dX8_ways_101 : decode cX8_ways 101 = .ok (.goto (-46), 3) := by decide +kernel
theorem dX8_ways_104 : decode cX8_ways 104 = .ok (.iinc 5 1, 3) := by decide +kernel
theorem dX8_ways_107 : decode cX8_ways 107 = .ok (.goto (-61), 3) := by decide +kernel
theorem dX8_ways_110 : decode cX8_ways 110 = .ok (.iload 4, 2) := by decide +kernel
theorem dX8_ways_112 : decode cX8_ways 112 = .ok (.ireturn, 1) := by decide +kernel
set_option maxRecDepth 20000 in
theorem ggX8_carrier_X8_in : GoodIn wsX8_carrier wsX8_in := goodIn_r _ [9] (by decide +kernel) (by decide +kernel)
set_option maxRecDepth 20000 in
theorem gX8_carrier_X8_in : GoodIn wsX8_carrier (va_wsS RX8 79 yX8_in wsX8_in) := goodIn_app (goodIn_of _ (by decide +kernel)) ggX8_carrier_X8_in
theorem dX8_carrier_0 : decode cX8_carrier 0 = .ok (.iload_n 1, 1) := by decide +kernel
theorem dX8_carrier_1 : decode cX8_carrier 1 = .ok (.sipush 1000, 3) := by decide +kernel
theorem dX8_carrier_4 : decode cX8_carrier 4 = .ok (.sipush 20000, 3) := by decide +kernel
theorem dX8_carrier_7 : decode cX8_carrier 7 = .ok (.invokestatic 79, 3) := by decide +kernel
theorem dX8_carrier_10 : decode cX8_carrier 10 = .ok (.ifCond .eq 53, 3) := by decide +kernel
theorem dX8_carrier_13 : decode cX8_carrier 13 = .ok (.iload_n 2, 1) := by decide +kernel
theorem dX8_carrier_14 : decode cX8_carrier 14 = .ok (.iconst 1, 1) := by decide +kernel
theorem dX8_carrier_15 : decode cX8_carrier 15 = .ok (.bipush 50, 2) := by decide +kernel
theorem dX8_carrier_17 : decode cX8_carrier 17 = .ok (.invokestatic 79, 3) := by decide +kernel
theorem dX8_carrier_20 : decode cX8_carrier 20 = .ok (.ifCond .eq 43, 3) := by decide +kernel
theorem dX8_carrier_23 : decode cX8_carrier 23 = .ok (.iload_n 3, 1) := by decide +kernel
theorem dX8_carrier_24 : decode cX8_carrier 24 = .ok (.iconst 1, 1) := by decide +kernel
theorem dX8_carrier_25 : decode cX8_carrier 25 = .ok (.bipush 12, 2) := by decide +kernel
theorem dX8_carrier_27 : decode cX8_carrier 27 = .ok (.invokestatic 79, 3) := by decide +kernel
theorem dX8_carrier_30 : decode cX8_carrier 30 = .ok (.ifCond .eq 33, 3) := by decide +kernel
theorem dX8_carrier_33 : decode cX8_carrier 33 = .ok (.iload 4, 2) := by decide +kernel
theorem dX8_carrier_35 : decode cX8_carrier 35 = .ok (.iconst 1, 1) := by decide +kernel
theorem dX8_carrier_36 : decode cX8_carrier 36 = .ok (.sipush 2000, 3) := by decide +kernel
theorem dX8_carrier_39 : decode cX8_carrier 39 = .ok (.invokestatic 79, 3) := by decide +kernel
theorem dX8_carrier_42 : decode cX8_carrier 42 = .ok (.ifCond .eq 21, 3) := by decide +kernel
theorem dX8_carrier_45 : decode cX8_carrier 45 = .ok (.iload 5, 2) := by decide +kernel
theorem dX8_carrier_47 : decode cX8_carrier 47 = .ok (.sipush 500, 3) := by decide +kernel
theorem dX8_carrier_50 : decode cX8_carrier 50 = .ok (.sipush 3000, 3) := by decide +kernel
theorem dX8_carrier_53 : decode cX8_carrier 53 = .ok (.invokestatic 79, 3) := by decide +kernel
theorem dX8_carrier_56 : decode cX8_carrier 56 = .ok (.ifCond .eq 7, 3) := by decide +kernel
theorem dX8_carrier_59 : decode cX8_carrier 59 = .ok (.iconst 1, 1) := by decide +kernel
theorem dX8_carrier_60 : decode cX8_carrier 60 = .ok (.goto 4, 3) := by decide +kernel
theorem dX8_carrier_63 : decode cX8_carrier 63 = .ok (.iconst 0, 1) := by decide +kernel
theorem dX8_carrier_64 : decode cX8_carrier 64 = .ok (.istore 6, 2) := by decide +kernel
theorem dX8_carrier_66 : decode cX8_carrier 66 = .ok (.iload 6, 2) := by decide +kernel
theorem dX8_carrier_68 : decode cX8_carrier 68 = .ok (.ifCond .ne 6, 3) := by decide +kernel
theorem dX8_carrier_71 : decode cX8_carrier 71 = .ok (.bipush (-2), 2) := by decide +kernel
theorem dX8_carrier_73 : decode cX8_carrier 73 = .ok (.ireturn, 1) := by decide +kernel
theorem dX8_carrier_74 : decode cX8_carrier 74 = .ok (.aload_n 0, 1) := by decide +kernel
theorem dX8_carrier_75 : decode cX8_carrier 75 = .ok (.iload_n 1, 1) := by decide +kernel
theorem dX8_carrier_76 : decode cX8_carrier 76 = .ok (.putfield 49, 3) := by decide +kernel
theorem dX8_carrier_79 : decode cX8_carrier 79 = .ok (.aload_n 0, 1) := by decide +kernel
theorem dX8_carrier_80 : decode cX8_carrier 80 = .ok (.iload_n 2, 1) := by decide +kernel
theorem dX8_carrier_81 : decode cX8_carrier 81 = .ok (.putfield 52, 3) := by decide +kernel
theorem dX8_carrier_84 : decode cX8_carrier 84 = .ok (.aload_n 0, 1) := by decide +kernel
theorem dX8_carrier_85 : decode cX8_carrier 85 = .ok (.iload_n 3, 1) := by decide +kernel
theorem dX8_carrier_86 : decode cX8_carrier 86 = .ok (.putfield 55, 3) := by decide +kernel
theorem dX8_carrier_89 : decode cX8_carrier 89 = .ok (.aload_n 0, 1) := by decide +kernel
theorem dX8_carrier_90 : decode cX8_carrier 90 = .ok (.iload 4, 2) := by decide +kernel
theorem dX8_carrier_92 : decode cX8_carrier 92 = .ok (.putfield 58, 3) := by decide +kernel
theorem dX8_carrier_95 : decode cX8_carrier 95 = .ok (.aload_n 0, 1) := by decide +kernel
theorem dX8_carrier_96 : decode cX8_carrier 96 = .ok (.iload 5, 2) := by decide +kernel
theorem dX8_carrier_98 : decode cX8_carrier 98 = .ok (.putfield 61, 3) := by decide +kernel
theorem dX8_carrier_101 : decode cX8_carrier 101 = .ok (.iconst 1, 1) := by decide +kernel
theorem dX8_carrier_102 : decode cX8_carrier 102 = .ok (.ireturn, 1) := by decide +kernel
theorem dX8_sagLower_0 : decode cX8_sagLower 0 = .ok (.ldc2_w 154, 3) := by decide +kernel
theorem dX8_sagLower_3 : decode cX8_sagLower 3 = .ok (.aload_n 0, 1) := by decide +kernel
theorem dX8_sagLower_4 : decode cX8_sagLower 4 = .ok (.getfield 55, 3) := by decide +kernel
theorem dX8_sagLower_7 : decode cX8_sagLower 7 = .ok (.i2l, 1) := by decide +kernel
theorem dX8_sagLower_8 : decode cX8_sagLower 8 = .ok (.lmul, 1) := by decide +kernel
theorem dX8_sagLower_9 : decode cX8_sagLower 9 = .ok (.aload_n 0, 1) := by decide +kernel
theorem dX8_sagLower_10 : decode cX8_sagLower 10 = .ok (.getfield 55, 3) := by decide +kernel
theorem dX8_sagLower_13 : decode cX8_sagLower 13 = .ok (.i2l, 1) := by decide +kernel
theorem dX8_sagLower_14 : decode cX8_sagLower 14 = .ok (.lmul, 1) := by decide +kernel
theorem dX8_sagLower_15 : decode cX8_sagLower 15 = .ok (.aload_n 0, 1) := by decide +kernel
theorem dX8_sagLower_16 : decode cX8_sagLower 16 = .ok (.getfield 49, 3) := by decide +kernel
theorem dX8_sagLower_19 : decode cX8_sagLower 19 = .ok (.i2l, 1) := by decide +kernel
theorem dX8_sagLower_20 : decode cX8_sagLower 20 = .ok (.lmul, 1) := by decide +kernel
theorem dX8_sagLower_21 : decode cX8_sagLower 21 = .ok (.lreturn, 1) := by decide +kernel
theorem dX8_sagUpper_0 : decode cX8_sagUpper 0 = .ok (.ldc2_w 156, 3) := by decide +kernel
theorem dX8_sagUpper_3 : decode cX8_sagUpper 3 = .ok (.iload_n 2, 1) := by decide +kernel
theorem dX8_sagUpper_4 : decode cX8_sagUpper 4 = .ok (.i2l, 1) := by decide +kernel
theorem dX8_sagUpper_5 : decode cX8_sagUpper 5 = .ok (.lmul, 1) := by decide +kernel
theorem dX8_sagUpper_6 : decode cX8_sagUpper 6 = .ok (.lconst 1, 1) := by decide +kernel
theorem dX8_sagUpper_7 : decode cX8_sagUpper 7 = .ok (.ladd, 1) := by decide +kernel
theorem dX8_sagUpper_8 : decode cX8_sagUpper 8 = .ok (.lstore_n 3, 1) := by decide +kernel
theorem dX8_sagUpper_9 : decode cX8_sagUpper 9 = .ok (.ldc2_w 156, 3) := by decide +kernel
theorem dX8_sagUpper_12 : decode cX8_sagUpper 12 = .ok (.aload_n 0, 1) := by decide +kernel
theorem dX8_sagUpper_13 : decode cX8_sagUpper 13 = .ok (.getfield 55, 3) := by decide +kernel
theorem dX8_sagUpper_16 : decode cX8_sagUpper 16 = .ok (.i2l, 1) := by decide +kernel
theorem dX8_sagUpper_17 : decode cX8_sagUpper 17 = .ok (.lmul, 1) := by decide +kernel
theorem dX8_sagUpper_18 : decode cX8_sagUpper 18 = .ok (.lstore 5, 2) := by decide +kernel
theorem dX8_sagUpper_20 : decode cX8_sagUpper 20 = .ok (.aload_n 0, 1) := by decide +kernel
theorem dX8_sagUpper_21 : decode cX8_sagUpper 21 = .ok (.getfield 52, 3) := by decide +kernel
theorem dX8_sagUpper_24 : decode cX8_sagUpper 24 = .ok (.i2l, 1) := by decide +kernel
theorem dX8_sagUpper_25 : decode cX8_sagUpper 25 = .ok (.iload_n 1, 1) := by decide +kernel
theorem dX8_sagUpper_26 : decode cX8_sagUpper 26 = .ok (.i2l, 1) := by decide +kernel
theorem dX8_sagUpper_27 : decode cX8_sagUpper 27 = .ok (.lmul, 1) := by decide +kernel
theorem dX8_sagUpper_28 : decode cX8_sagUpper 28 = .ok (.iload_n 1, 1) := by decide +kernel
theorem dX8_sagUpper_29 : decode cX8_sagUpper 29 = .ok (.i2l, 1) := by decide +kernel
theorem dX8_sagUpper_30 : decode cX8_sagUpper 30 = .ok (.lmul, 1) := by decide +kernel
theorem dX8_sagUpper_31 : decode cX8_sagUpper 31 = .ok (.lload_n 3, 1) := by decide +kernel
theorem dX8_sagUpper_32 : decode cX8_sagUpper 32 = .ok (.lmul, 1) := by decide +kernel
theorem dX8_sagUpper_33 : decode cX8_sagUpper 33 = .ok (.lload 5, 2) := by decide +kernel
theorem dX8_sagUpper_35 : decode cX8_sagUpper 35 = .ok (.lload_n 3, 1) := by decide +kernel
theorem dX8_sagUpper_36 : decode cX8_sagUpper 36 = .ok (.lsub, 1) := by decide +kernel
theorem dX8_sagUpper_37 : decode cX8_sagUpper 37 = .ok (.lmul, 1) := by decide +kernel
theorem dX8_sagUpper_38 : decode cX8_sagUpper 38 = .ok (.lstore 7, 2) := by decide +kernel
theorem dX8_sagUpper_40 : decode cX8_sagUpper 40 = .ok (.iconst 0, 1) := by decide +kernel
theorem dX8_sagUpper_41 : decode cX8_sagUpper 41 = .ok (.istore 9, 2) := by decide +kernel
theorem dX8_sagUpper_43 : decode cX8_sagUpper 43 = .ok (.iload 9, 2) := by decide +kernel
theorem dX8_sagUpper_45 : decode cX8_sagUpper 45 = .ok (.aload_n 0, 1) := by decide +kernel
theorem dX8_sagUpper_46 : decode cX8_sagUpper 46 = .ok (.getfield 55, 3) := by decide +kernel
theorem dX8_sagUpper_49 : decode cX8_sagUpper 49 = .ok (.if_icmp .ge 66, 3) := by decide +kernel
theorem dX8_sagUpper_52 : decode cX8_sagUpper 52 = .ok (.ldc2_w 156, 3) := by decide +kernel
theorem dX8_sagUpper_55 : decode cX8_sagUpper 55 = .ok (.iload 9, 2) := by decide +kernel
theorem dX8_sagUpper_57 : decode cX8_sagUpper 57 = .ok (.i2l, 1) := by decide +kernel
theorem dX8_sagUpper_58 : decode cX8_sagUpper 58 = .ok (.lmul, 1) := by decide +kernel
theorem dX8_sagUpper_59 : decode cX8_sagUpper 59 = .ok (.lconst 1, 1) := by decide +kernel
theorem dX8_sagUpper_60 : decode cX8_sagUpper 60 = .ok (.ladd, 1) := by decide +kernel
theorem dX8_sagUpper_61 : decode cX8_sagUpper 61 = .ok (.lstore 10, 2) := by decide +kernel
theorem dX8_sagUpper_63 : decode cX8_sagUpper 63 = .ok (.lload_n 3, 1) := by decide +kernel
theorem dX8_sagUpper_64 : decode cX8_sagUpper 64 = .ok (.lload 10, 2) := by decide +kernel
theorem dX8_sagUpper_66 : decode cX8_sagUpper 66 = .ok (.lcmp, 1) := by decide +kernel
theorem dX8_sagUpper_67 : decode cX8_sagUpper 67 = .ok (.ifCond .lt 13, 3) := by decide +kernel
theorem dX8_sagUpper_70 : decode cX8_sagUpper 70 = .ok (.lload 10, 2) := by decide +kernel
theorem dX8_sagUpper_72 : decode cX8_sagUpper 72 = .ok (.lload 5, 2) := by decide +kernel
theorem dX8_sagUpper_74 : decode cX8_sagUpper 74 = .ok (.lload_n 3, 1) := by decide +kernel
theorem dX8_sagUpper_75 : decode cX8_sagUpper 75 = .ok (.lsub, 1) := by decide +kernel
theorem dX8_sagUpper_76 : decode cX8_sagUpper 76 = .ok (.lmul, 1) := by decide +kernel
theorem dX8_sagUpper_77 : decode cX8_sagUpper 77 = .ok (.goto 10, 3) := by decide +kernel
theorem dX8_sagUpper_80 : decode cX8_sagUpper 80 = .ok (.lload_n 3, 1) := by decide +kernel
theorem dX8_sagUpper_81 : decode cX8_sagUpper 81 = .ok (.lload 5, 2) := by decide +kernel
theorem dX8_sagUpper_83 : decode cX8_sagUpper 83 = .ok (.lload 10, 2) := by decide +kernel
theorem dX8_sagUpper_85 : decode cX8_sagUpper 85 = .ok (.lsub, 1) := by decide +kernel
theorem dX8_sagUpper_86 : decode cX8_sagUpper 86 = .ok (.lmul, 1) := by decide +kernel
theorem dX8_sagUpper_87 : decode cX8_sagUpper 87 = .ok (.lstore 12, 2) := by decide +kernel
theorem dX8_sagUpper_89 : decode cX8_sagUpper 89 = .ok (.lload 7, 2) := by decide +kernel
theorem dX8_sagUpper_91 : decode cX8_sagUpper 91 = .ok (.ldc2_w 156, 3) := by decide +kernel
theorem dX8_sagUpper_94 : decode cX8_sagUpper 94 = .ok (.aload_n 0, 1) := by decide +kernel
theorem dX8_sagUpper_95 : decode cX8_sagUpper 95 = .ok (.getfield 58, 3) := by decide +kernel
theorem dX8_sagUpper_98 : decode cX8_sagUpper 98 = .ok (.i2l, 1) := by decide +kernel
theorem dX8_sagUpper_99 : decode cX8_sagUpper 99 = .ok (.lmul, 1) := by decide +kernel
theorem dX8_sagUpper_100 : decode cX8_sagUpper 100 = .ok (.iload_n 1, 1) := by decide +kernel
theorem dX8_sagUpper_101 : decode cX8_sagUpper 101 = .ok (.i2l, 1) := by decide +kernel
theorem dX8_sagUpper_102 : decode cX8_sagUpper 102 = .ok (.lmul, 1) := by decide +kernel
theorem dX8_sagUpper_103 : decode cX8_sagUpper 103 = .ok (.lload 12, 2) := by decide +kernel
theorem dX8_sagUpper_105 : decode cX8_sagUpper 105 = .ok (.lmul, 1) := by decide +kernel
theorem dX8_sagUpper_106 : decode cX8_sagUpper 106 = .ok (.ladd, 1) := by decide +kernel
theorem dX8_sagUpper_107 : decode cX8_sagUpper 107 = .ok (.lstore 7, 2) := by decide +kernel
theorem dX8_sagUpper_109 : decode cX8_sagUpper 109 = .ok (.iinc 9 1, 3) := by decide +kernel
theorem dX8_sagUpper_112 : decode cX8_sagUpper 112 = .ok (.goto (-69), 3) := by decide +kernel
theorem dX8_sagUpper_115 : decode cX8_sagUpper 115 = .ok (.lload 7, 2) := by decide +kernel
theorem dX8_sagUpper_117 : decode cX8_sagUpper 117 = .ok (.lreturn, 1) := by decide +kernel
set_option maxRecDepth 20000 in
theorem ggX8_barsSag_X8_in : GoodIn wsX8_barsSag wsX8_in := goodIn_r _ [7] (by decide +kernel) (by decide +kernel)
set_option maxRecDepth 20000 in
theorem gX8_barsSag_X8_in : GoodIn wsX8_barsSag (va_wsS RX8 79 yX8_in wsX8_in) := goodIn_app (goodIn_of _ (by decide +kernel)) ggX8_barsSag_X8_in
theorem dX8_barsSag_0 : decode cX8_barsSag 0 = .ok (.iload_n 2, 1) := by decide +kernel
theorem dX8_barsSag_1 : decode cX8_barsSag 1 = .ok (.iconst 0, 1) := by decide +kernel
theorem dX8_barsSag_2 : decode cX8_barsSag 2 = .ok (.aload_n 0, 1) := by decide +kernel
theorem dX8_barsSag_3 : decode cX8_barsSag 3 = .ok (.getfield 55, 3) := by decide +kernel
theorem dX8_barsSag_6 : decode cX8_barsSag 6 = .ok (.iconst 1, 1) := by decide +kernel
theorem dX8_barsSag_7 : decode cX8_barsSag 7 = .ok (.isub, 1) := by decide +kernel
theorem dX8_barsSag_8 : decode cX8_barsSag 8 = .ok (.invokestatic 79, 3) := by decide +kernel
theorem dX8_barsSag_11 : decode cX8_barsSag 11 = .ok (.ifCond .ne 7, 3) := by decide +kernel
theorem dX8_barsSag_14 : decode cX8_barsSag 14 = .ok (.ldc2_w 100, 3) := by decide +kernel
theorem dX8_barsSag_17 : decode cX8_barsSag 17 = .ok (.lreturn, 1) := by decide +kernel
theorem dX8_barsSag_18 : decode cX8_barsSag 18 = .ok (.iload_n 1, 1) := by decide +kernel
theorem dX8_barsSag_19 : decode cX8_barsSag 19 = .ok (.iconst 1, 1) := by decide +kernel
theorem dX8_barsSag_20 : decode cX8_barsSag 20 = .ok (.sipush 800, 3) := by decide +kernel
theorem dX8_barsSag_23 : decode cX8_barsSag 23 = .ok (.invokestatic 79, 3) := by decide +kernel
theorem dX8_barsSag_26 : decode cX8_barsSag 26 = .ok (.ifCond .eq 16, 3) := by decide +kernel
theorem dX8_barsSag_29 : decode cX8_barsSag 29 = .ok (.iload_n 3, 1) := by decide +kernel
theorem dX8_barsSag_30 : decode cX8_barsSag 30 = .ok (.iconst 0, 1) := by decide +kernel
theorem dX8_barsSag_31 : decode cX8_barsSag 31 = .ok (.iconst 1, 1) := by decide +kernel
theorem dX8_barsSag_32 : decode cX8_barsSag 32 = .ok (.invokestatic 79, 3) := by decide +kernel
theorem dX8_barsSag_35 : decode cX8_barsSag 35 = .ok (.ifCond .eq 7, 3) := by decide +kernel
theorem dX8_barsSag_38 : decode cX8_barsSag 38 = .ok (.lconst 0, 1) := by decide +kernel
theorem dX8_barsSag_39 : decode cX8_barsSag 39 = .ok (.goto 6, 3) := by decide +kernel
theorem dX8_barsSag_42 : decode cX8_barsSag 42 = .ok (.ldc2_w 134, 3) := by decide +kernel
theorem dX8_barsSag_45 : decode cX8_barsSag 45 = .ok (.lreturn, 1) := by decide +kernel
set_option maxRecDepth 20000 in
theorem ggX8_sag_X8_barsSag : GoodIn wsX8_sag wsX8_barsSag := goodIn_r _ [5, 6, 7, 8, 9, 10, 4, 11, 31, 32, 33, 34, 35, 36, 37, 38, 39, 40, 41, 42, 43, 44, 45, 46, 47, 48, 49, 50, 51, 52, 53, 54, 55, 56, 57] (by decide +kernel) (by decide +kernel)
set_option maxRecDepth 20000 in
theorem gX8_sag_X8_barsSag : GoodIn wsX8_sag (wsV RX8 158 RX8 yX8_barsSag wsX8_barsSag) := goodIn_app (goodIn_of _ (by decide +kernel)) ggX8_sag_X8_barsSag
set_option maxRecDepth 20000 in
theorem ggX8_sag_X8_sagUpper : GoodIn wsX8_sag wsX8_sagUpper := goodIn_r _ [15, 16, 6, 17, 18, 31, 32, 33, 34, 35, 36, 37, 38, 39, 40, 41, 42, 43, 44, 45, 46, 47, 48, 49, 50, 51, 52, 53, 54, 55, 56, 57] (by decide +kernel) (by decide +kernel)
set_option maxRecDepth 20000 in
theorem gX8_sag_X8_sagUpper : GoodIn wsX8_sag (wsV RX8 162 RX8 yX8_sagUpper wsX8_sagUpper) := goodIn_app (goodIn_of _ (by decide +kernel)) ggX8_sag_X8_sagUpper
set_option maxRecDepth 20000 in
theorem ggX8_sag_X8_sagLower : GoodIn wsX8_sag wsX8_sagLower := goodIn_r _ [22, 23, 6, 24, 31, 32, 33, 34, 35, 36, 37, 38, 39, 40, 41, 42, 43, 44, 45, 46, 47, 48, 49, 50, 51, 52, 53, 54, 55, 56, 57] (by decide +kernel) (by decide +kernel)
set_option maxRecDepth 20000 in
theorem gX8_sag_X8_sagLower : GoodIn wsX8_sag (wsV RX8 166 RX8 yX8_sagLower wsX8_sagLower) := goodIn_app (goodIn_of _ (by decide +kernel)) ggX8_sag_X8_sagLower
set_option maxRecDepth 20000 in
theorem ggX8_sag_X8_part : GoodIn wsX8_sag wsX8_part := goodIn_r _ [27, 28, 29, 4, 30] (by decide +kernel) (by decide +kernel)
set_option maxRecDepth 20000 in
theorem gX8_sag_X8_part : GoodIn wsX8_sag (va_wsS RX8 139 yX8_part wsX8_part) := goodIn_app (goodIn_of _ (by decide +kernel)) ggX8_sag_X8_part
theorem dX8_sag_0 : decode cX8_sag 0 = .ok (.aload_n 0, 1) := by decide +kernel
theorem dX8_sag_1 : decode cX8_sag 1 = .ok (.iload_n 1, 1) := by decide +kernel
theorem dX8_sag_2 : decode cX8_sag 2 = .ok (.iload_n 2, 1) := by decide +kernel
theorem dX8_sag_3 : decode cX8_sag 3 = .ok (.iload_n 3, 1) := by decide +kernel
theorem dX8_sag_4 : decode cX8_sag 4 = .ok (.invokevirtual 158, 3) := by decide +kernel
theorem dX8_sag_7 : decode cX8_sag 7 = .ok (.lstore 4, 2) := by decide +kernel
theorem dX8_sag_9 : decode cX8_sag 9 = .ok (.lload 4, 2) := by decide +kernel
theorem dX8_sag_11 : decode cX8_sag 11 = .ok (.lconst 0, 1) := by decide +kernel
theorem dX8_sag_12 : decode cX8_sag 12 = .ok (.lcmp, 1) := by decide +kernel
theorem dX8_sag_13 : decode cX8_sag 13 = .ok (.ifCond .ge 8, 3) := by decide +kernel
theorem dX8_sag_16 : decode cX8_sag 16 = .ok (.lload 4, 2) := by decide +kernel
theorem dX8_sag_18 : decode cX8_sag 18 = .ok (.goto 17, 3) := by decide +kernel
theorem dX8_sag_21 : decode cX8_sag 21 = .ok (.aload_n 0, 1) := by decide +kernel
theorem dX8_sag_22 : decode cX8_sag 22 = .ok (.iload_n 1, 1) := by decide +kernel
theorem dX8_sag_23 : decode cX8_sag 23 = .ok (.iload_n 2, 1) := by decide +kernel
theorem dX8_sag_24 : decode cX8_sag 24 = .ok (.invokevirtual 162, 3) := by decide +kernel
theorem dX8_sag_27 : decode cX8_sag 27 = .ok (.aload_n 0, 1) := by decide +kernel
theorem dX8_sag_28 : decode cX8_sag 28 = .ok (.invokevirtual 166, 3) := by decide +kernel
theorem dX8_sag_31 : decode cX8_sag 31 = .ok (.iload_n 3, 1) := by decide +kernel
theorem dX8_sag_32 : decode cX8_sag 32 = .ok (.invokestatic 139, 3) := by decide +kernel
theorem dX8_sag_35 : decode cX8_sag 35 = .ok (.lreturn, 1) := by decide +kernel
set_option maxRecDepth 20000 in
theorem ggX8_dropUpper_X8_sagLower : GoodIn wsX8_dropUpper wsX8_sagLower := goodIn_r _ [6, 7, 8, 9, 17, 18, 19, 20, 21, 22, 23, 24, 25, 26, 27, 28, 29, 30, 31, 32, 33, 34, 35, 36, 37, 38, 39, 40, 41, 42, 43] (by decide +kernel) (by decide +kernel)
set_option maxRecDepth 20000 in
theorem gX8_dropUpper_X8_sagLower : GoodIn wsX8_dropUpper (wsV RX8 166 RX8 yX8_sagLower wsX8_sagLower) := goodIn_app (goodIn_of _ (by decide +kernel)) ggX8_dropUpper_X8_sagLower
set_option maxRecDepth 20000 in
theorem ggX8_dropUpper_X8_sagUpper : GoodIn wsX8_dropUpper wsX8_sagUpper := goodIn_r _ [13, 14, 8, 15, 16, 17, 18, 19, 20, 21, 22, 23, 24, 25, 26, 27, 28, 29, 30, 31, 32, 33, 34, 35, 36, 37, 38, 39, 40, 41, 42, 43] (by decide +kernel) (by decide +kernel)
set_option maxRecDepth 20000 in
theorem gX8_dropUpper_X8_sagUpper : GoodIn wsX8_dropUpper (wsV RX8 162 RX8 yX8_sagUpper wsX8_sagUpper) := goodIn_app (goodIn_of _ (by decide +kernel)) ggX8_dropUpper_X8_sagUpper
theorem dX8_dropUpper_0 : decode cX8_dropUpper 0 = .ok (.aload_n 0, 1) := by decide +kernel
theorem dX8_dropUpper_1 : decode cX8_dropUpper 1 = .ok (.getfield 61, 3) := by decide +kernel
theorem dX8_dropUpper_4 : decode cX8_dropUpper 4 = .ok (.i2l, 1) := by decide +kernel
theorem dX8_dropUpper_5 : decode cX8_dropUpper 5 = .ok (.aload_n 0, 1) := by decide +kernel
theorem dX8_dropUpper_6 : decode cX8_dropUpper 6 = .ok (.invokevirtual 166, 3) := by decide +kernel
theorem dX8_dropUpper_9 : decode cX8_dropUpper 9 = .ok (.lmul, 1) := by decide +kernel
theorem dX8_dropUpper_10 : decode cX8_dropUpper 10 = .ok (.aload_n 0, 1) := by decide +kernel
theorem dX8_dropUpper_11 : decode cX8_dropUpper 11 = .ok (.iload_n 1, 1) := by decide +kernel
theorem dX8_dropUpper_12 : decode cX8_dropUpper 12 = .ok (.iload_n 2, 1) := by decide +kernel
theorem dX8_dropUpper_13 : decode cX8_dropUpper 13 = .ok (.invokevirtual 162, 3) := by decide +kernel
theorem dX8_dropUpper_16 : decode cX8_dropUpper 16 = .ok (.lsub, 1) := by decide +kernel
theorem dX8_dropUpper_17 : decode cX8_dropUpper 17 = .ok (.lreturn, 1) := by decide +kernel
set_option maxRecDepth 20000 in
theorem ggX8_dropper_X8_barsSag : GoodIn wsX8_dropper wsX8_barsSag := goodIn_r _ [5, 6, 7, 8, 9, 10, 4, 11, 36, 37, 38, 39, 40, 41, 42, 43, 44, 45, 46, 47, 48, 49, 50, 51, 52, 53, 54, 55, 56, 57, 58, 59, 60, 61, 62] (by decide +kernel) (by decide +kernel)
set_option maxRecDepth 20000 in
theorem gX8_dropper_X8_barsSag : GoodIn wsX8_dropper (wsV RX8 158 RX8 yX8_barsSag wsX8_barsSag) := goodIn_app (goodIn_of _ (by decide +kernel)) ggX8_dropper_X8_barsSag
set_option maxRecDepth 20000 in
theorem ggX8_dropper_X8_dropUpper : GoodIn wsX8_dropper wsX8_dropUpper := goodIn_r _ [15, 16, 17, 18, 19, 4, 20, 21, 6, 22, 23, 24, 25, 26, 27, 28, 29, 36, 37, 38, 39, 40, 41, 42, 43, 44, 45, 46, 47, 48, 49, 50, 51, 52, 53, 54, 55, 56, 57, 58, 59, 60, 61, 62] (by decide +kernel) (by decide +kernel)
set_option maxRecDepth 20000 in
theorem gX8_dropper_X8_dropUpper : GoodIn wsX8_dropper (wsV RX8 170 RX8 yX8_dropUpper wsX8_dropUpper) := goodIn_app (goodIn_of _ (by decide +kernel)) ggX8_dropper_X8_dropUpper
set_option maxRecDepth 20000 in
theorem ggX8_dropper_X8_sagLower : GoodIn wsX8_dropper wsX8_sagLower := goodIn_r _ [20, 21, 6, 22, 36, 37, 38, 39, 40, 41, 42, 43, 44, 45, 46, 47, 48, 49, 50, 51, 52, 53, 54, 55, 56, 57, 58, 59, 60, 61, 62] (by decide +kernel) (by decide +kernel)
set_option maxRecDepth 20000 in
theorem gX8_dropper_X8_sagLower : GoodIn wsX8_dropper (wsV RX8 166 RX8 yX8_sagLower wsX8_sagLower) := goodIn_app (goodIn_of _ (by decide +kernel)) ggX8_dropper_X8_sagLower
set_option maxRecDepth 20000 in
theorem ggX8_dropper_X8_part : GoodIn wsX8_dropper wsX8_part := goodIn_r _ [32, 33, 34, 4, 35] (by decide +kernel) (by decide +kernel)
set_option maxRecDepth 20000 in
theorem gX8_dropper_X8_part : GoodIn wsX8_dropper (va_wsS RX8 139 yX8_part wsX8_part) := goodIn_app (goodIn_of _ (by decide +kernel)) ggX8_dropper_X8_part
theorem dX8_dropper_0 : decode cX8_dropper 0 = .ok (.aload_n 0, 1) := by decide +kernel
theorem dX8_dropper_1 : decode cX8_dropper 1 = .ok (.iload_n 1, 1) := by decide +kernel
theorem dX8_dropper_2 : decode cX8_dropper 2 = .ok (.iload_n 2, 1) := by decide +kernel
theorem dX8_dropper_3 : decode cX8_dropper 3 = .ok (.iload_n 3, 1) := by decide +kernel
theorem dX8_dropper_4 : decode cX8_dropper 4 = .ok (.invokevirtual 158, 3) := by decide +kernel
theorem dX8_dropper_7 : decode cX8_dropper 7 = .ok (.lstore 4, 2) := by decide +kernel
theorem dX8_dropper_9 : decode cX8_dropper 9 = .ok (.lload 4, 2) := by decide +kernel
theorem dX8_dropper_11 : decode cX8_dropper 11 = .ok (.lconst 0, 1) := by decide +kernel
theorem dX8_dropper_12 : decode cX8_dropper 12 = .ok (.lcmp, 1) := by decide +kernel
theorem dX8_dropper_13 : decode cX8_dropper 13 = .ok (.ifCond .ge 8, 3) := by decide +kernel
theorem dX8_dropper_16 : decode cX8_dropper 16 = .ok (.lload 4, 2) := by decide +kernel
theorem dX8_dropper_18 : decode cX8_dropper 18 = .ok (.goto 17, 3) := by decide +kernel
theorem dX8_dropper_21 : decode cX8_dropper 21 = .ok (.aload_n 0, 1) := by decide +kernel
theorem dX8_dropper_22 : decode cX8_dropper 22 = .ok (.iload_n 1, 1) := by decide +kernel
theorem dX8_dropper_23 : decode cX8_dropper 23 = .ok (.iload_n 2, 1) := by decide +kernel
theorem dX8_dropper_24 : decode cX8_dropper 24 = .ok (.invokevirtual 170, 3) := by decide +kernel
theorem dX8_dropper_27 : decode cX8_dropper 27 = .ok (.aload_n 0, 1) := by decide +kernel
theorem dX8_dropper_28 : decode cX8_dropper 28 = .ok (.invokevirtual 166, 3) := by decide +kernel
theorem dX8_dropper_31 : decode cX8_dropper 31 = .ok (.iload_n 3, 1) := by decide +kernel
theorem dX8_dropper_32 : decode cX8_dropper 32 = .ok (.invokestatic 139, 3) := by decide +kernel
theorem dX8_dropper_35 : decode cX8_dropper 35 = .ok (.lreturn, 1) := by decide +kernel
set_option maxRecDepth 20000 in
theorem ggX8_cutOf_X8_dropUpper : GoodIn wsX8_cutOf wsX8_dropUpper := goodIn_r _ [5, 6, 7, 8, 9, 4, 10, 11, 12, 13, 14, 15, 16, 17, 18, 19, 20, 21, 22, 23, 24, 25, 26, 27, 28, 29, 30, 31, 32, 33, 34, 35, 36, 37, 38, 39, 40, 41, 42, 43, 44, 45, 46, 47] (by decide +kernel) (by decide +kernel)
set_option maxRecDepth 20000 in
theorem gX8_cutOf_X8_dropUpper : GoodIn wsX8_cutOf (wsV RX8 170 RX8 yX8_dropUpper wsX8_dropUpper) := goodIn_app (goodIn_of _ (by decide +kernel)) ggX8_cutOf_X8_dropUpper
set_option maxRecDepth 20000 in
theorem ggX8_cutOf_X8_sagLower : GoodIn wsX8_cutOf wsX8_sagLower := goodIn_r _ [10, 11, 12, 13, 21, 22, 23, 24, 25, 26, 27, 28, 29, 30, 31, 32, 33, 34, 35, 36, 37, 38, 39, 40, 41, 42, 43, 44, 45, 46, 47] (by decide +kernel) (by decide +kernel)
set_option maxRecDepth 20000 in
theorem gX8_cutOf_X8_sagLower : GoodIn wsX8_cutOf (wsV RX8 166 RX8 yX8_sagLower wsX8_sagLower) := goodIn_app (goodIn_of _ (by decide +kernel)) ggX8_cutOf_X8_sagLower
theorem dX8_cutOf_0 : decode cX8_cutOf 0 = .ok (.aload_n 0, 1) := by decide +kernel
theorem dX8_cutOf_1 : decode cX8_cutOf 1 = .ok (.iload_n 1, 1) := by decide +kernel
theorem dX8_cutOf_2 : decode cX8_cutOf 2 = .ok (.iload_n 2, 1) := by decide +kernel
theorem dX8_cutOf_3 : decode cX8_cutOf 3 = .ok (.invokevirtual 170, 3) := by decide +kernel
theorem dX8_cutOf_6 : decode cX8_cutOf 6 = .ok (.lstore_n 3, 1) := by decide +kernel
theorem dX8_cutOf_7 : decode cX8_cutOf 7 = .ok (.aload_n 0, 1) := by decide +kernel
theorem dX8_cutOf_8 : decode cX8_cutOf 8 = .ok (.invokevirtual 166, 3) := by decide +kernel
theorem dX8_cutOf_11 : decode cX8_cutOf 11 = .ok (.lstore 5, 2) := by decide +kernel
theorem dX8_cutOf_13 : decode cX8_cutOf 13 = .ok (.lload_n 3, 1) := by decide +kernel
theorem dX8_cutOf_14 : decode cX8_cutOf 14 = .ok (.lload 5, 2) := by decide +kernel
theorem dX8_cutOf_16 : decode cX8_cutOf 16 = .ok (.ldiv, 1) := by decide +kernel
theorem dX8_cutOf_17 : decode cX8_cutOf 17 = .ok (.lstore 7, 2) := by decide +kernel
theorem dX8_cutOf_19 : decode cX8_cutOf 19 = .ok (.lload_n 3, 1) := by decide +kernel
theorem dX8_cutOf_20 : decode cX8_cutOf 20 = .ok (.lload 5, 2) := by decide +kernel
theorem dX8_cutOf_22 : decode cX8_cutOf 22 = .ok (.lrem, 1) := by decide +kernel
theorem dX8_cutOf_23 : decode cX8_cutOf 23 = .ok (.lconst 0, 1) := by decide +kernel
theorem dX8_cutOf_24 : decode cX8_cutOf 24 = .ok (.lcmp, 1) := by decide +kernel
theorem dX8_cutOf_25 : decode cX8_cutOf 25 = .ok (.ifCond .le 10, 3) := by decide +kernel
theorem dX8_cutOf_28 : decode cX8_cutOf 28 = .ok (.lload 7, 2) := by decide +kernel
theorem dX8_cutOf_30 : decode cX8_cutOf 30 = .ok (.lconst 1, 1) := by decide +kernel
theorem dX8_cutOf_31 : decode cX8_cutOf 31 = .ok (.ladd, 1) := by decide +kernel
theorem dX8_cutOf_32 : decode cX8_cutOf 32 = .ok (.goto 5, 3) := by decide +kernel
theorem dX8_cutOf_35 : decode cX8_cutOf 35 = .ok (.lload 7, 2) := by decide +kernel
theorem dX8_cutOf_37 : decode cX8_cutOf 37 = .ok (.l2i, 1) := by decide +kernel
theorem dX8_cutOf_38 : decode cX8_cutOf 38 = .ok (.ireturn, 1) := by decide +kernel
set_option maxRecDepth 20000 in
theorem ggX8_cut_X8_in : GoodIn wsX8_cut wsX8_in := goodIn_r _ [7] (by decide +kernel) (by decide +kernel)
set_option maxRecDepth 20000 in
theorem gX8_cut_X8_in : GoodIn wsX8_cut (va_wsS RX8 79 yX8_in wsX8_in) := goodIn_app (goodIn_of _ (by decide +kernel)) ggX8_cut_X8_in
set_option maxRecDepth 20000 in
theorem ggX8_cut_X8_cutOf : GoodIn wsX8_cut wsX8_cutOf := goodIn_r _ [11, 12, 13, 14, 6, 15, 16, 17, 18, 19, 20, 21, 1, 22, 23, 24, 25, 26, 27, 28, 29, 30, 31, 32, 33, 34, 35, 36, 37, 38, 39, 40, 41, 42, 43, 44, 45, 46, 47, 48, 49, 50, 51, 52, 53, 54, 55, 56] (by decide +kernel) (by decide +kernel)
set_option maxRecDepth 20000 in
theorem gX8_cut_X8_cutOf : GoodIn wsX8_cut (wsV RX8 174 RX8 yX8_cutOf wsX8_cutOf) := goodIn_app (goodIn_of _ (by decide +kernel)) ggX8_cut_X8_cutOf
theorem dX8_cut_0 : decode cX8_cut 0 = .ok (.iload_n 2, 1) := by decide +kernel
theorem dX8_cut_1 : decode cX8_cut 1 = .ok (.iconst 0, 1) := by decide +kernel
theorem dX8_cut_2 : decode cX8_cut 2 = .ok (.aload_n 0, 1) := by decide +kernel
theorem dX8_cut_3 : decode cX8_cut 3 = .ok (.getfield 55, 3) := by decide +kernel
theorem dX8_cut_6 : decode cX8_cut 6 = .ok (.iconst 1, 1) := by decide +kernel
theorem dX8_cut_7 : decode cX8_cut 7 = .ok (.isub, 1) := by decide +kernel
theorem dX8_cut_8 : decode cX8_cut 8 = .ok (.invokestatic 79, 3) := by decide +kernel
theorem dX8_cut_11 : decode cX8_cut 11 = .ok (.ifCond .ne 6, 3) := by decide +kernel
theorem dX8_cut_14 : decode cX8_cut 14 = .ok (.ldc 173, 2) := by decide +kernel
theorem dX8_cut_16 : decode cX8_cut 16 = .ok (.ireturn, 1) := by decide +kernel
theorem dX8_cut_17 : decode cX8_cut 17 = .ok (.iload_n 1, 1) := by decide +kernel
theorem dX8_cut_18 : decode cX8_cut 18 = .ok (.iconst 1, 1) := by decide +kernel
theorem dX8_cut_19 : decode cX8_cut 19 = .ok (.sipush 800, 3) := by decide +kernel
theorem dX8_cut_22 : decode cX8_cut 22 = .ok (.invokestatic 79, 3) := by decide +kernel
theorem dX8_cut_25 : decode cX8_cut 25 = .ok (.ifCond .eq 12, 3) := by decide +kernel
theorem dX8_cut_28 : decode cX8_cut 28 = .ok (.aload_n 0, 1) := by decide +kernel
theorem dX8_cut_29 : decode cX8_cut 29 = .ok (.iload_n 1, 1) := by decide +kernel
theorem dX8_cut_30 : decode cX8_cut 30 = .ok (.iload_n 2, 1) := by decide +kernel
theorem dX8_cut_31 : decode cX8_cut 31 = .ok (.invokevirtual 174, 3) := by decide +kernel
theorem dX8_cut_34 : decode cX8_cut 34 = .ok (.goto 5, 3) := by decide +kernel
theorem dX8_cut_37 : decode cX8_cut 37 = .ok (.ldc 178, 2) := by decide +kernel
theorem dX8_cut_39 : decode cX8_cut 39 = .ok (.ireturn, 1) := by decide +kernel
set_option maxRecDepth 20000 in
theorem ggX8_bears_X8_in : GoodIn wsX8_bears wsX8_in := goodIn_r _ [9] (by decide +kernel) (by decide +kernel)
set_option maxRecDepth 20000 in
theorem gX8_bears_X8_in : GoodIn wsX8_bears (va_wsS RX8 79 yX8_in wsX8_in) := goodIn_app (goodIn_of _ (by decide +kernel)) ggX8_bears_X8_in
set_option maxRecDepth 20000 in
theorem ggX8_bears_X8_part : GoodIn wsX8_bears wsX8_part := goodIn_r _ [12, 13, 14, 8, 15] (by decide +kernel) (by decide +kernel)
set_option maxRecDepth 20000 in
theorem gX8_bears_X8_part : GoodIn wsX8_bears (va_wsS RX8 139 yX8_part wsX8_part) := goodIn_app (goodIn_of _ (by decide +kernel)) ggX8_bears_X8_part
theorem dX8_bears_0 : decode cX8_bears 0 = .ok (.iload_n 1, 1) := by decide +kernel
theorem dX8_bears_1 : decode cX8_bears 1 = .ok (.iconst 1, 1) := by decide +kernel
theorem dX8_bears_2 : decode cX8_bears 2 = .ok (.sipush 800, 3) := by decide +kernel
theorem dX8_bears_5 : decode cX8_bears 5 = .ok (.invokestatic 79, 3) := by decide +kernel
theorem dX8_bears_8 : decode cX8_bears 8 = .ok (.ifCond .eq 12, 3) := by decide +kernel
theorem dX8_bears_11 : decode cX8_bears 11 = .ok (.iload_n 2, 1) := by decide +kernel
theorem dX8_bears_12 : decode cX8_bears 12 = .ok (.iconst 0, 1) := by decide +kernel
theorem dX8_bears_13 : decode cX8_bears 13 = .ok (.iconst 1, 1) := by decide +kernel
theorem dX8_bears_14 : decode cX8_bears 14 = .ok (.invokestatic 79, 3) := by decide +kernel
theorem dX8_bears_17 : decode cX8_bears 17 = .ok (.ifCond .ne 7, 3) := by decide +kernel
theorem dX8_bears_20 : decode cX8_bears 20 = .ok (.ldc2_w 134, 3) := by decide +kernel
theorem dX8_bears_23 : decode cX8_bears 23 = .ok (.lreturn, 1) := by decide +kernel
theorem dX8_bears_24 : decode cX8_bears 24 = .ok (.aload_n 0, 1) := by decide +kernel
theorem dX8_bears_25 : decode cX8_bears 25 = .ok (.getfield 52, 3) := by decide +kernel
theorem dX8_bears_28 : decode cX8_bears 28 = .ok (.i2l, 1) := by decide +kernel
theorem dX8_bears_29 : decode cX8_bears 29 = .ok (.iload_n 1, 1) := by decide +kernel
theorem dX8_bears_30 : decode cX8_bears 30 = .ok (.i2l, 1) := by decide +kernel
theorem dX8_bears_31 : decode cX8_bears 31 = .ok (.lmul, 1) := by decide +kernel
theorem dX8_bears_32 : decode cX8_bears 32 = .ok (.aload_n 0, 1) := by decide +kernel
theorem dX8_bears_33 : decode cX8_bears 33 = .ok (.getfield 55, 3) := by decide +kernel
theorem dX8_bears_36 : decode cX8_bears 36 = .ok (.i2l, 1) := by decide +kernel
theorem dX8_bears_37 : decode cX8_bears 37 = .ok (.aload_n 0, 1) := by decide +kernel
theorem dX8_bears_38 : decode cX8_bears 38 = .ok (.getfield 58, 3) := by decide +kernel
theorem dX8_bears_41 : decode cX8_bears 41 = .ok (.i2l, 1) := by decide +kernel
theorem dX8_bears_42 : decode cX8_bears 42 = .ok (.lmul, 1) := by decide +kernel
theorem dX8_bears_43 : decode cX8_bears 43 = .ok (.ladd, 1) := by decide +kernel
theorem dX8_bears_44 : decode cX8_bears 44 = .ok (.ldc2_w 156, 3) := by decide +kernel
theorem dX8_bears_47 : decode cX8_bears 47 = .ok (.iload_n 2, 1) := by decide +kernel
theorem dX8_bears_48 : decode cX8_bears 48 = .ok (.invokestatic 139, 3) := by decide +kernel
theorem dX8_bears_51 : decode cX8_bears 51 = .ok (.lreturn, 1) := by decide +kernel
set_option maxRecDepth 20000 in
theorem ggX8_shortOne_X8_masts : GoodIn wsX8_shortOne wsX8_masts := goodIn_r _ [8, 9, 10, 37, 38, 39, 40, 41, 42, 43, 44, 45, 46, 47, 48, 49, 50, 51, 52, 53, 54, 55, 56, 57, 58, 59, 60, 61, 62, 63] (by decide +kernel) (by decide +kernel)
set_option maxRecDepth 20000 in
theorem gX8_shortOne_X8_masts : GoodIn wsX8_shortOne (wsV RX8 102 RX8 yX8_masts wsX8_masts) := goodIn_app (goodIn_of _ (by decide +kernel)) ggX8_shortOne_X8_masts
set_option maxRecDepth 20000 in
theorem ggX8_shortOne_X8_endOf : GoodIn wsX8_shortOne wsX8_endOf := goodIn_r _ [14, 9, 10, 37, 38, 39, 40, 41, 42, 43, 44, 45, 46, 47, 48, 49, 50, 51, 52, 53, 54, 55, 56, 57, 58, 59, 60, 61, 62, 63] (by decide +kernel) (by decide +kernel)
set_option maxRecDepth 20000 in
theorem gX8_shortOne_X8_endOf : GoodIn wsX8_shortOne (wsV RX8 147 RX8 yX8_endOf wsX8_endOf) := goodIn_app (goodIn_of _ (by decide +kernel)) ggX8_shortOne_X8_endOf
set_option maxRecDepth 20000 in
theorem ggX8_shortOne_X8_mastBefore : GoodIn wsX8_shortOne wsX8_mastBefore := goodIn_r _ [18, 10, 37, 38, 39, 40, 41, 42, 43, 44, 45, 46, 47, 48, 49, 50, 51, 52, 53, 54, 55, 56, 57, 58, 59, 60, 61, 62, 63] (by decide +kernel) (by decide +kernel)
set_option maxRecDepth 20000 in
theorem gX8_shortOne_X8_mastBefore : GoodIn wsX8_shortOne (wsV RX8 136 RX8 yX8_mastBefore wsX8_mastBefore) := goodIn_app (goodIn_of _ (by decide +kernel)) ggX8_shortOne_X8_mastBefore
set_option maxRecDepth 20000 in
theorem ggX8_shortOne_X8_dropUpper : GoodIn wsX8_shortOne wsX8_dropUpper := goodIn_r _ [22, 23, 24, 25, 26, 7, 27, 28, 2, 29, 30, 31, 32, 33, 34, 35, 36, 37, 38, 39, 40, 41, 42, 43, 44, 45, 46, 47, 48, 49, 50, 51, 52, 53, 54, 55, 56, 57, 58, 59, 60, 61, 62, 63] (by decide +kernel) (by decide +kernel)
set_option maxRecDepth 20000 in
theorem gX8_shortOne_X8_dropUpper : GoodIn wsX8_shortOne (wsV RX8 170 RX8 yX8_dropUpper wsX8_dropUpper) := goodIn_app (goodIn_of _ (by decide +kernel)) ggX8_shortOne_X8_dropUpper
set_option maxRecDepth 20000 in
theorem ggX8_shortOne_X8_sagLower : GoodIn wsX8_shortOne wsX8_sagLower := goodIn_r _ [27, 28, 2, 29, 37, 38, 39, 40, 41, 42, 43, 44, 45, 46, 47, 48, 49, 50, 51, 52, 53, 54, 55, 56, 57, 58, 59, 60, 61, 62, 63] (by decide +kernel) (by decide +kernel)
set_option maxRecDepth 20000 in
theorem gX8_shortOne_X8_sagLower : GoodIn wsX8_shortOne (wsV RX8 166 RX8 yX8_sagLower wsX8_sagLower) := goodIn_app (goodIn_of _ (by decide +kernel)) ggX8_shortOne_X8_sagLower
theorem dX8_shortOne_0 : decode cX8_shortOne 0 = .ok (.aload_n 0, 1) := by decide +kernel
theorem dX8_shortOne_1 : decode cX8_shortOne 1 = .ok (.invokevirtual 102, 3) := by decide +kernel
theorem dX8_shortOne_4 : decode cX8_shortOne 4 = .ok (.iconst 1, 1) := by decide +kernel
theorem dX8_shortOne_5 : decode cX8_shortOne 5 = .ok (.isub, 1) := by decide +kernel
theorem dX8_shortOne_6 : decode cX8_shortOne 6 = .ok (.istore_n 1, 1) := by decide +kernel
theorem dX8_shortOne_7 : decode cX8_shortOne 7 = .ok (.iconst 0, 1) := by decide +kernel
theorem dX8_shortOne_8 : decode cX8_shortOne 8 = .ok (.istore_n 2, 1) := by decide +kernel
theorem dX8_shortOne_9 : decode cX8_shortOne 9 = .ok (.iload_n 2, 1) := by decide +kernel
theorem dX8_shortOne_10 : decode cX8_shortOne 10 = .ok (.iload_n 1, 1) := by decide +kernel
theorem dX8_shortOne_11 : decode cX8_shortOne 11 = .ok (.if_icmp .ge 80, 3) := by decide +kernel
theorem dX8_shortOne_14 : decode cX8_shortOne 14 = .ok (.aload_n 0, 1) := by decide +kernel
theorem dX8_shortOne_15 : decode cX8_shortOne 15 = .ok (.iload_n 2, 1) := by decide +kernel
theorem dX8_shortOne_16 : decode cX8_shortOne 16 = .ok (.invokevirtual 147, 3) := by decide +kernel
theorem dX8_shortOne_19 : decode cX8_shortOne 19 = .ok (.istore_n 3, 1) := by decide +kernel
theorem dX8_shortOne_20 : decode cX8_shortOne 20 = .ok (.aload_n 0, 1) := by decide +kernel
theorem dX8_shortOne_21 : decode cX8_shortOne 21 = .ok (.getfield 27, 3) := by decide +kernel
theorem dX8_shortOne_24 : decode cX8_shortOne 24 = .ok (.iload_n 3, 1) := by decide +kernel
theorem dX8_shortOne_25 : decode cX8_shortOne 25 = .ok (.iaload, 1) := by decide +kernel
theorem dX8_shortOne_26 : decode cX8_shortOne 26 = .ok (.aload_n 0, 1) := by decide +kernel
theorem dX8_shortOne_27 : decode cX8_shortOne 27 = .ok (.getfield 27, 3) := by decide +kernel
theorem dX8_shortOne_30 : decode cX8_shortOne 30 = .ok (.aload_n 0, 1) := by decide +kernel
theorem dX8_shortOne_31 : decode cX8_shortOne 31 = .ok (.iload_n 3, 1) := by decide +kernel
theorem dX8_shortOne_32 : decode cX8_shortOne 32 = .ok (.invokevirtual 136, 3) := by decide +kernel
theorem dX8_shortOne_35 : decode cX8_shortOne 35 = .ok (.iaload, 1) := by decide +kernel
theorem dX8_shortOne_36 : decode cX8_shortOne 36 = .ok (.isub, 1) := by decide +kernel
theorem dX8_shortOne_37 : decode cX8_shortOne 37 = .ok (.istore 4, 2) := by decide +kernel
theorem dX8_shortOne_39 : decode cX8_shortOne 39 = .ok (.iconst 0, 1) := by decide +kernel
theorem dX8_shortOne_40 : decode cX8_shortOne 40 = .ok (.istore 5, 2) := by decide +kernel
theorem dX8_shortOne_42 : decode cX8_shortOne 42 = .ok (.iload 5, 2) := by decide +kernel
theorem dX8_shortOne_44 : decode cX8_shortOne 44 = .ok (.aload_n 0, 1) := by decide +kernel
theorem dX8_shortOne_45 : decode cX8_shortOne 45 = .ok (.getfield 55, 3) := by decide +kernel
theorem dX8_shortOne_48 : decode cX8_shortOne 48 = .ok (.if_icmp .ge 37, 3) := by decide +kernel
theorem dX8_shortOne_51 : decode cX8_shortOne 51 = .ok (.aload_n 0, 1) := by decide +kernel
theorem dX8_shortOne_52 : decode cX8_shortOne 52 = .ok (.iload 4, 2) := by decide +kernel
theorem dX8_shortOne_54 : decode cX8_shortOne 54 = .ok (.iload 5, 2) := by decide +kernel
theorem dX8_shortOne_56 : decode cX8_shortOne 56 = .ok (.invokevirtual 170, 3) := by decide +kernel
theorem dX8_shortOne_59 : decode cX8_shortOne 59 = .ok (.ldc2_w 179, 3) := by decide +kernel
theorem dX8_shortOne_62 : decode cX8_shortOne 62 = .ok (.aload_n 0, 1) := by decide +kernel
theorem dX8_shortOne_63 : decode cX8_shortOne 63 = .ok (.invokevirtual 166, 3) := by decide +kernel
theorem dX8_shortOne_66 : decode cX8_shortOne 66 = .ok (.lmul, 1) := by decide +kernel
theorem dX8_shortOne_67 : decode cX8_shortOne 67 = .ok (.lcmp, 1) := by decide +kernel
theorem dX8_shortOne_68 : decode cX8_shortOne 68 = .ok (.ifCond .ge 11, 3) := by decide +kernel
theorem dX8_shortOne_71 : decode cX8_shortOne 71 = .ok (.bipush 100, 2) := by decide +kernel
theorem dX8_shortOne_73 : decode cX8_shortOne 73 = .ok (.iload_n 2, 1) := by decide +kernel
theorem dX8_shortOne_74 : decode cX8_shortOne 74 = .ok (.imul, 1) := by decide +kernel
theorem dX8_shortOne_75 : decode cX8_shortOne 75 = .ok (.iload 5, 2) := by decide +kernel
theorem dX8_shortOne_77 : decode cX8_shortOne 77 = .ok (.iadd, 1) := by decide +kernel
theorem dX8_shortOne_78 : decode cX8_shortOne 78 = .ok (.ireturn, 1) := by decide +kernel
theorem dX8_shortOne_79 : decode cX8_shortOne 79 = .ok (.iinc 5 1, 3) := by decide +kernel
theorem dX8_shortOne_82 : decode cX8_shortOne 82 = .ok (.goto (-40), 3) := by decide +kernel
theorem dX8_shortOne_85 : decode cX8_shortOne 85 = .ok (.iinc 2 1, 3) := by decide +kernel
theorem dX8_shortOne_88 : decode cX8_shortOne 88 = .ok (.goto (-79), 3) := by decide +kernel
theorem dX8_shortOne_91 : decode cX8_shortOne 91 = .ok (.bipush (-6), 2) := by decide +kernel
theorem dX8_shortOne_93 : decode cX8_shortOne 93 = .ok (.ireturn, 1) := by decide +kernel
set_option maxRecDepth 20000 in
theorem ggX8_heat_X8_in : GoodIn wsX8_heat wsX8_in := goodIn_r _ [7] (by decide +kernel) (by decide +kernel)
set_option maxRecDepth 20000 in
theorem gX8_heat_X8_in : GoodIn wsX8_heat (va_wsS RX8 79 yX8_in wsX8_in) := goodIn_app (goodIn_of _ (by decide +kernel)) ggX8_heat_X8_in
set_option maxRecDepth 20000 in
theorem ggX8_heat_X8_part : GoodIn wsX8_heat wsX8_part := goodIn_r _ [10, 11, 12, 6, 13] (by decide +kernel) (by decide +kernel)
set_option maxRecDepth 20000 in
theorem gX8_heat_X8_part : GoodIn wsX8_heat (va_wsS RX8 139 yX8_part wsX8_part) := goodIn_app (goodIn_of _ (by decide +kernel)) ggX8_heat_X8_part
theorem dX8_heat_0 : decode cX8_heat 0 = .ok (.iload_n 1, 1) := by decide +kernel
theorem dX8_heat_1 : decode cX8_heat 1 = .ok (.iconst 0, 1) := by decide +kernel
theorem dX8_heat_2 : decode cX8_heat 2 = .ok (.sipush 8000, 3) := by decide +kernel
theorem dX8_heat_5 : decode cX8_heat 5 = .ok (.invokestatic 79, 3) := by decide +kernel
theorem dX8_heat_8 : decode cX8_heat 8 = .ok (.ifCond .eq 23, 3) := by decide +kernel
theorem dX8_heat_11 : decode cX8_heat 11 = .ok (.iload_n 2, 1) := by decide +kernel
theorem dX8_heat_12 : decode cX8_heat 12 = .ok (.bipush (-40), 2) := by decide +kernel
theorem dX8_heat_14 : decode cX8_heat 14 = .ok (.bipush 80, 2) := by decide +kernel
theorem dX8_heat_16 : decode cX8_heat 16 = .ok (.invokestatic 79, 3) := by decide +kernel
theorem dX8_heat_19 : decode cX8_heat 19 = .ok (.ifCond .eq 12, 3) := by decide +kernel
theorem dX8_heat_22 : decode cX8_heat 22 = .ok (.iload_n 3, 1) := by decide +kernel
theorem dX8_heat_23 : decode cX8_heat 23 = .ok (.iconst 0, 1) := by decide +kernel
theorem dX8_heat_24 : decode cX8_heat 24 = .ok (.iconst 1, 1) := by decide +kernel
theorem dX8_heat_25 : decode cX8_heat 25 = .ok (.invokestatic 79, 3) := by decide +kernel
theorem dX8_heat_28 : decode cX8_heat 28 = .ok (.ifCond .ne 7, 3) := by decide +kernel
theorem dX8_heat_31 : decode cX8_heat 31 = .ok (.ldc2_w 134, 3) := by decide +kernel
theorem dX8_heat_34 : decode cX8_heat 34 = .ok (.lreturn, 1) := by decide +kernel
theorem dX8_heat_35 : decode cX8_heat 35 = .ok (.iload_n 1, 1) := by decide +kernel
theorem dX8_heat_36 : decode cX8_heat 36 = .ok (.i2l, 1) := by decide +kernel
theorem dX8_heat_37 : decode cX8_heat 37 = .ok (.iload_n 2, 1) := by decide +kernel
theorem dX8_heat_38 : decode cX8_heat 38 = .ok (.bipush 10, 2) := by decide +kernel
theorem dX8_heat_40 : decode cX8_heat 40 = .ok (.isub, 1) := by decide +kernel
theorem dX8_heat_41 : decode cX8_heat 41 = .ok (.i2l, 1) := by decide +kernel
theorem dX8_heat_42 : decode cX8_heat 42 = .ok (.lmul, 1) := by decide +kernel
theorem dX8_heat_43 : decode cX8_heat 43 = .ok (.ldc2_w 181, 3) := by decide +kernel
theorem dX8_heat_46 : decode cX8_heat 46 = .ok (.lmul, 1) := by decide +kernel
theorem dX8_heat_47 : decode cX8_heat 47 = .ok (.ldc2_w 183, 3) := by decide +kernel
theorem dX8_heat_50 : decode cX8_heat 50 = .ok (.iload_n 3, 1) := by decide +kernel
theorem dX8_heat_51 : decode cX8_heat 51 = .ok (.invokestatic 139, 3) := by decide +kernel
theorem dX8_heat_54 : decode cX8_heat 54 = .ok (.lreturn, 1) := by decide +kernel
theorem dX8_sideOf_0 : decode cX8_sideOf 0 = .ok (.iload_n 1, 1) := by decide +kernel
theorem dX8_sideOf_1 : decode cX8_sideOf 1 = .ok (.iconst 3, 1) := by decide +kernel
theorem dX8_sideOf_2 : decode cX8_sideOf 2 = .ok (.irem, 1) := by decide +kernel
theorem dX8_sideOf_3 : decode cX8_sideOf 3 = .ok (.iconst 1, 1) := by decide +kernel
theorem dX8_sideOf_4 : decode cX8_sideOf 4 = .ok (.isub, 1) := by decide +kernel
theorem dX8_sideOf_5 : decode cX8_sideOf 5 = .ok (.iload_n 2, 1) := by decide +kernel
theorem dX8_sideOf_6 : decode cX8_sideOf 6 = .ok (.imul, 1) := by decide +kernel
theorem dX8_sideOf_7 : decode cX8_sideOf 7 = .ok (.ireturn, 1) := by decide +kernel
set_option maxRecDepth 20000 in
theorem ggX8_choose_X8_in : GoodIn wsX8_choose wsX8_in := goodIn_r _ [11] (by decide +kernel) (by decide +kernel)
set_option maxRecDepth 20000 in
theorem gX8_choose_X8_in : GoodIn wsX8_choose (va_wsS RX8 79 yX8_in wsX8_in) := goodIn_app (goodIn_of _ (by decide +kernel)) ggX8_choose_X8_in
set_option maxRecDepth 20000 in
theorem ggX8_choose_X8_sideOf : GoodIn wsX8_choose wsX8_sideOf := goodIn_r _ [15] (by decide +kernel) (by decide +kernel)
set_option maxRecDepth 20000 in
theorem gX8_choose_X8_sideOf : GoodIn wsX8_choose (wsV RX8 185 RX8 yX8_sideOf wsX8_sideOf) := goodIn_app (goodIn_of _ (by decide +kernel)) ggX8_choose_X8_sideOf
set_option maxRecDepth 20000 in
theorem ggX8_choose_X8_isSpanKept : GoodIn wsX8_choose wsX8_isSpanKept := goodIn_r _ [19, 20, 21, 22, 23, 10, 24, 25, 26, 27, 28, 29, 30, 31, 32, 33, 34, 35, 36, 37, 38, 39, 40, 41, 42, 43, 44, 45, 46, 47, 48, 49, 50, 51, 52, 53, 54, 55, 56, 57, 58, 59, 60, 61, 62, 63, 64, 65, 66, 67, 68, 69, 70, 71, 72, 73, 74] (by decide +kernel) (by decide +kernel)
set_option maxRecDepth 20000 in
theorem gX8_choose_X8_isSpanKept : GoodIn wsX8_choose (wsV RX8 150 RX8 yX8_isSpanKept wsX8_isSpanKept) := goodIn_app (goodIn_of _ (by decide +kernel)) ggX8_choose_X8_isSpanKept
theorem dX8_choose_0 : decode cX8_choose 0 = .ok (.iload_n 1, 1) := by decide +kernel
theorem dX8_choose_1 : decode cX8_choose 1 = .ok (.iconst 0, 1) := by decide +kernel
theorem dX8_choose_2 : decode cX8_choose 2 = .ok (.sipush 400, 3) := by decide +kernel
theorem dX8_choose_5 : decode cX8_choose 5 = .ok (.invokestatic 79, 3) := by decide +kernel
theorem dX8_choose_8 : decode cX8_choose 8 = .ok (.ifCond .ne 6, 3) := by decide +kernel
theorem dX8_choose_11 : decode cX8_choose 11 = .ok (.bipush (-2), 2) := by decide +kernel
theorem dX8_choose_13 : decode cX8_choose 13 = .ok (.ireturn, 1) := by decide +kernel
theorem dX8_choose_14 : decode cX8_choose 14 = .ok (.aload_n 0, 1) := by decide +kernel
theorem dX8_choose_15 : decode cX8_choose 15 = .ok (.getfield 83, 3) := by decide +kernel
theorem dX8_choose_18 : decode cX8_choose 18 = .ok (.iconst 2, 1) := by decide +kernel
theorem dX8_choose_19 : decode cX8_choose 19 = .ok (.if_icmp .ge 6, 3) := by decide +kernel
theorem dX8_choose_22 : decode cX8_choose 22 = .ok (.bipush (-3), 2) := by decide +kernel
theorem dX8_choose_24 : decode cX8_choose 24 = .ok (.ireturn, 1) := by decide +kernel
theorem dX8_choose_25 : decode cX8_choose 25 = .ok (.iconst 3, 1) := by decide +kernel
theorem dX8_choose_26 : decode cX8_choose 26 = .ok (.aload_n 0, 1) := by decide +kernel
theorem dX8_choose_27 : decode cX8_choose 27 = .ok (.getfield 83, 3) := by decide +kernel
theorem dX8_choose_30 : decode cX8_choose 30 = .ok (.imul, 1) := by decide +kernel
theorem dX8_choose_31 : decode cX8_choose 31 = .ok (.istore_n 2, 1) := by decide +kernel
theorem dX8_choose_32 : decode cX8_choose 32 = .ok (.iload_n 2, 1) := by decide +kernel
theorem dX8_choose_33 : decode cX8_choose 33 = .ok (.iconst 1, 1) := by decide +kernel
theorem dX8_choose_34 : decode cX8_choose 34 = .ok (.isub, 1) := by decide +kernel
theorem dX8_choose_35 : decode cX8_choose 35 = .ok (.istore_n 3, 1) := by decide +kernel
theorem dX8_choose_36 : decode cX8_choose 36 = .ok (.iload_n 3, 1) := by decide +kernel
theorem dX8_choose_37 : decode cX8_choose 37 = .ok (.ifCond .lt 200, 3) := by decide +kernel
theorem dX8_choose_40 : decode cX8_choose 40 = .ok (.aload_n 0, 1) := by decide +kernel
theorem dX8_choose_41 : decode cX8_choose 41 = .ok (.getfield 64, 3) := by decide +kernel
theorem dX8_choose_44 : decode cX8_choose 44 = .ok (.iload_n 3, 1) := by decide +kernel
theorem dX8_choose_45 : decode cX8_choose 45 = .ok (.iload_n 3, 1) := by decide +kernel
theorem dX8_choose_46 : decode cX8_choose 46 = .ok (.iconst 3, 1) := by decide +kernel
theorem dX8_choose_47 : decode cX8_choose 47 = .ok (.idiv, 1) := by decide +kernel
theorem dX8_choose_48 : decode cX8_choose 48 = .ok (.aload_n 0, 1) := by decide +kernel
theorem dX8_choose_49 : decode cX8_choose 49 = .ok (.getfield 83, 3) := by decide +kernel
theorem dX8_choose_52 : decode cX8_choose 52 = .ok (.iconst 1, 1) := by decide +kernel
theorem dX8_choose_53 : decode cX8_choose 53 = .ok (.isub, 1) := by decide +kernel
theorem dX8_choose_54 : decode cX8_choose 54 = .ok (.if_icmp .ne 17, 3) := by decide +kernel
theorem dX8_choose_57 : decode cX8_choose 57 = .ok (.aload_n 0, 1) := by decide +kernel
theorem dX8_choose_58 : decode cX8_choose 58 = .ok (.getfield 30, 3) := by decide +kernel
theorem dX8_choose_61 : decode cX8_choose 61 = .ok (.aload_n 0, 1) := by decide +kernel
theorem dX8_choose_62 : decode cX8_choose 62 = .ok (.getfield 83, 3) := by decide +kernel
theorem dX8_choose_65 : decode cX8_choose 65 = .ok (.iconst 1, 1) := by decide +kernel
theorem dX8_choose_66 : decode cX8_choose 66 = .ok (.isub, 1) := by decide +kernel
theorem dX8_choose_67 : decode cX8_choose 67 = .ok (.iaload, 1) := by decide +kernel
theorem dX8_choose_68 : decode cX8_choose 68 = .ok (.goto 4, 3) := by decide +kernel
theorem dX8_choose_71 : decode cX8_choose 71 = .ok (.iconst (-1), 1) := by decide +kernel
theorem dX8_choose_72 : decode cX8_choose 72 = .ok (.iastore, 1) := by decide +kernel
theorem dX8_choose_73 : decode cX8_choose 73 = .ok (.iconst 3, 1) := by decide +kernel
theorem dX8_choose_74 : decode cX8_choose 74 = .ok (.iload_n 3, 1) := by decide +kernel
theorem dX8_choose_75 : decode cX8_choose 75 = .ok (.iconst 3, 1) := by decide +kernel
theorem dX8_choose_76 : decode cX8_choose 76 = .ok (.idiv, 1) := by decide +kernel
theorem dX8_choose_77 : decode cX8_choose 77 = .ok (.iconst 1, 1) := by decide +kernel
theorem dX8_choose_78 : decode cX8_choose 78 = .ok (.iadd, 1) := by decide +kernel
theorem dX8_choose_79 : decode cX8_choose 79 = .ok (.imul, 1) := by decide +kernel
theorem dX8_choose_80 : decode cX8_choose 80 = .ok (.istore 4, 2) := by decide +kernel
theorem dX8_choose_82 : decode cX8_choose 82 = .ok (.iload 4, 2) := by decide +kernel
theorem dX8_choose_84 : decode cX8_choose 84 = .ok (.iload_n 2, 1) := by decide +kernel
theorem dX8_choose_85 : decode cX8_choose 85 = .ok (.if_icmp .ge 146, 3) := by decide +kernel
theorem dX8_choose_88 : decode cX8_choose 88 = .ok (.aload_n 0, 1) := by decide +kernel
theorem dX8_choose_89 : decode cX8_choose 89 = .ok (.getfield 64, 3) := by decide +kernel
theorem dX8_choose_92 : decode cX8_choose 92 = .ok (.iload 4, 2) := by decide +kernel
theorem dX8_choose_94 : decode cX8_choose 94 = .ok (.iaload, 1) := by decide +kernel
theorem dX8_choose_95 : decode cX8_choose 95 = .ok (.ifCond .lt 44, 3) := by decide +kernel
theorem dX8_choose_98 : decode cX8_choose 98 = .ok (.aload_n 0, 1) := by decide +kernel
theorem dX8_choose_99 : decode cX8_choose 99 = .ok (.aload_n 0, 1) := by decide +kernel
theorem dX8_choose_100 : decode cX8_choose 100 = .ok (.getfield 27, 3) := by decide +kernel
theorem dX8_choose_103 : decode cX8_choose 103 = .ok (.iload_n 3, 1) := by decide +kernel
theorem dX8_choose_104 : decode cX8_choose 104 = .ok (.iconst 3, 1) := by decide +kernel
theorem dX8_choose_105 : decode cX8_choose 105 = .ok (.idiv, 1) := by decide +kernel
theorem dX8_choose_106 : decode cX8_choose 106 = .ok (.iaload, 1) := by decide +kernel
theorem dX8_choose_107 : decode cX8_choose 107 = .ok (.aload_n 0, 1) := by decide +kernel
theorem dX8_choose_108 : decode cX8_choose 108 = .ok (.iload_n 3, 1) := by decide +kernel
theorem dX8_choose_109 : decode cX8_choose 109 = .ok (.iload_n 1, 1) := by decide +kernel
theorem dX8_choose_110 : decode cX8_choose 110 = .ok (.invokevirtual 185, 3) := by decide +kernel
theorem dX8_choose_113 : decode cX8_choose 113 = .ok (.aload_n 0, 1) := by decide +kernel
theorem dX8_choose_114 : decode cX8_choose 114 = .ok (.getfield 27, 3) := by decide +kernel
theorem dX8_choose_117 : decode cX8_choose 117 = .ok (.iload 4, 2) := by decide +kernel
theorem dX8_choose_119 : decode cX8_choose 119 = .ok (.iconst 3, 1) := by decide +kernel
theorem dX8_choose_120 : decode cX8_choose 120 = .ok (.idiv, 1) := by decide +kernel
theorem dX8_choose_121 : decode cX8_choose 121 = .ok (.iaload, 1) := by decide +kernel
theorem dX8_choose_122 : decode cX8_choose 122 = .ok (.aload_n 0, 1) := by decide +kernel
theorem dX8_choose_123 : decode cX8_choose 123 = .ok (.iload 4, 2) := by decide +kernel
theorem dX8_choose_125 : decode cX8_choose 125 = .ok (.iload_n 1, 1) := by decide +kernel
theorem dX8_choose_126 : decode cX8_choose 126 = .ok (.invokevirtual 185, 3) := by decide +kernel
theorem dX8_choose_129 : decode cX8_choose 129 = .ok (.invokevirtual 150, 3) := by decide +kernel
theorem dX8_choose_132 : decode cX8_choose 132 = .ok (.ifCond .eq 7, 3) := by decide +kernel
theorem dX8_choose_135 : decode cX8_choose 135 = .ok (.iconst 1, 1) := by decide +kernel
theorem dX8_choose_136 : decode cX8_choose 136 = .ok (.goto 4, 3) := by decide +kernel
theorem dX8_choose_139 : decode cX8_choose 139 = .ok (.iconst 0, 1) := by decide +kernel
theorem dX8_choose_140 : decode cX8_choose 140 = .ok (.istore 5, 2) := by decide +kernel
theorem dX8_choose_142 : decode cX8_choose 142 = .ok (.aload_n 0, 1) := by decide +kernel
theorem dX8_choose_143 : decode cX8_choose 143 = .ok (.getfield 67, 3) := by decide +kernel
theorem dX8_choose_146 : decode cX8_choose 146 = .ok (.bipush 120, 2) := by decide +kernel
theorem dX8_choose_148 : decode cX8_choose 148 = .ok (.iload_n 3, 1) := by decide +kernel
theorem dX8_choose_149 : decode cX8_choose 149 = .ok (.imul, 1) := by decide +kernel
theorem dX8_choose_150 : decode cX8_choose 150 = .ok (.iload 4, 2) := by decide +kernel
theorem dX8_choose_152 : decode cX8_choose 152 = .ok (.iadd, 1) := by decide +kernel
theorem dX8_choose_153 : decode cX8_choose 153 = .ok (.iload 5, 2) := by decide +kernel
theorem dX8_choose_155 : decode cX8_choose 155 = .ok (.bastore, 1) := by decide +kernel
theorem dX8_choose_156 : decode cX8_choose 156 = .ok (.iload 5, 2) := by decide +kernel
theorem dX8_choose_158 : decode cX8_choose 158 = .ok (.ifCond .eq 22, 3) := by decide +kernel
theorem dX8_choose_161 : decode cX8_choose 161 = .ok (.aload_n 0, 1) := by decide +kernel
theorem dX8_choose_162 : decode cX8_choose 162 = .ok (.getfield 64, 3) := by decide +kernel
theorem dX8_choose_165 : decode cX8_choose 165 = .ok (.iload 4, 2) := by decide +kernel
theorem dX8_choose_167 : decode cX8_choose 167 = .ok (.iaload, 1) := by decide +kernel
theorem dX8_choose_168 : decode cX8_choose 168 = .ok (.aload_n 0, 1) := by decide +kernel
theorem dX8_choose_169 : decode cX8_choose 169 = .ok (.getfield 30, 3) := by decide +kernel
theorem dX8_choose_172 : decode cX8_choose 172 = .ok (.iload_n 3, 1) := by decide +kernel
theorem dX8_choose_173 : decode cX8_choose 173 = .ok (.iconst 3, 1) := by decide +kernel
theorem dX8_choose_174 : decode cX8_choose 174 = .ok (.idiv, 1) := by decide +kernel
theorem dX8_choose_175 : decode cX8_choose 175 = .ok (.iaload, 1) := by decide +kernel
theorem dX8_choose_176 : decode cX8_choose 176 = .ok (.iadd, 1) := by decide +kernel
theorem dX8_choose_177 : decode cX8_choose 177 = .ok (.goto 4, 3) := by decide +kernel
theorem dX8_choose_180 : decode cX8_choose 180 = .ok (.iconst (-1), 1) := by decide +kernel
theorem dX8_choose_181 : decode cX8_choose 181 = .ok (.istore 6, 2) := by decide +kernel
theorem dX8_choose_183 : decode cX8_choose 183 = .ok (.aload_n 0, 1) := by decide +kernel
theorem dX8_choose_184 : decode cX8_choose 184 = .ok (.getfield 64, 3) := by decide +kernel
theorem dX8_choose_187 : decode cX8_choose 187 = .ok (.iload_n 3, 1) := by decide +kernel
theorem dX8_choose_188 : decode cX8_choose 188 = .ok (.iload 5, 2) := by decide +kernel
theorem dX8_choose_190 : decode cX8_choose 190 = .ok (.ifCond .eq 28, 3) := by decide +kernel
theorem dX8_choose_193 : decode cX8_choose 193 = .ok (.aload_n 0, 1) := by decide +kernel
theorem dX8_choose_194 : decode cX8_choose 194 = .ok (.getfield 64, 3) := by decide +kernel
theorem dX8_choose_197 : decode cX8_choose 197 = .ok (.iload_n 3, 1) := by decide +kernel
theorem dX8_choose_198 : decode cX8_choose 198 = .ok (.iaload, 1) := by decide +kernel
theorem dX8_choose_199 : decode cX8_choose 199 = .ok (.ifCond .lt 14, 3) := by decide +kernel
theorem dX8_choose_202 : decode cX8_choose 202 = .ok (.iload 6, 2) := by decide +kernel
theorem dX8_choose_204 : decode cX8_choose 204 = .ok (.aload_n 0, 1) := by decide +kernel
theorem dX8_choose_205 : decode cX8_choose 205 = .ok (.getfield 64, 3) := by decide +kernel
theorem dX8_choose_208 : decode cX8_choose 208 = .ok (.iload_n 3, 1) := by decide +kernel
theorem dX8_choose_209 : decode cX8_choose 209 = .ok (.iaload, 1) := by decide +kernel
theorem dX8_choose_210 : decode cX8_choose 210 = .ok (.if_icmp .ge 8, 3) := by decide +kernel
theorem dX8_choose_213 : decode cX8_choose 213 = .ok (.iload 6, 2) := by decide +kernel
theorem dX8_choose_215 : decode cX8_choose 215 = .ok (.goto 9, 3) := by decide +kernel
theorem dX8_choose_218 : decode cX8_choose 218 = .ok (.aload_n 0, 1) := by decide +kernel
theorem dX8_choose_219 : decode cX8_choose 219 = .ok (.getfield 64, 3) := by decide +kernel
theorem dX8_choose_222 : decode cX8_choose 222 = .ok (.iload_n 3, 1) := by decide +kernel
theorem dX8_choose_223 : decode cX8_choose 223 = .ok (.iaload, 1) := by decide +kernel
theorem dX8_choose_224 : decode cX8_choose 224 = .ok (.iastore, 1) := by decide +kernel
theorem dX8_choose_225 : decode cX8_choose 225 = .ok (.iinc 4 1, 3) := by decide +kernel
theorem dX8_choose_228 : decode cX8_choose 228 = .ok (.goto (-146), 3) := by decide +kernel
theorem dX8_choose_231 : decode cX8_choose 231 = .ok (.iinc 3 (-1), 3) := by decide +kernel
theorem dX8_choose_234 : decode cX8_choose 234 = .ok (.goto (-198), 3) := by decide +kernel
theorem dX8_choose_237 : decode cX8_choose 237 = .ok (.bipush (-6), 2) := by decide +kernel
theorem dX8_choose_239 : decode cX8_choose 239 = .ok (.istore_n 3, 1) := by decide +kernel
theorem dX8_choose_240 : decode cX8_choose 240 = .ok (.iconst 2, 1) := by decide +kernel
theorem dX8_choose_241 : decode cX8_choose 241 = .ok (.istore 4, 2) := by decide +kernel
theorem dX8_choose_243 : decode cX8_choose 243 = .ok (.iload 4, 2) := by decide +kernel
theorem dX8_choose_245 : decode cX8_choose 245 = .ok (.ifCond .lt 46, 3) := by decide +kernel
theorem dX8_choose_248 : decode cX8_choose 248 = .ok (.aload_n 0, 1) := by decide +kernel
theorem dX8_choose_249 : decode cX8_choose 249 = .ok (.getfield 64, 3) := by decide +kernel
theorem dX8_choose_252 : decode cX8_choose 252 = .ok (.iload 4, 2) := by decide +kernel
theorem dX8_choose_254 : decode cX8_choose 254 = .ok (.iaload, 1) := by decide +kernel
theorem dX8_choose_255 : decode cX8_choose 255 = .ok (.ifCond .lt 28, 3) := by decide +kernel
theorem dX8_choose_258 : decode cX8_choose 258 = .ok (.iload_n 3, 1) := by decide +kernel
theorem dX8_choose_259 : decode cX8_choose 259 = .ok (.ifCond .lt 19, 3) := by decide +kernel
theorem dX8_choose_262 : decode cX8_choose 262 = .ok (.aload_n 0, 1) := by decide +kernel
theorem dX8_choose_263 : decode cX8_choose 263 = .ok (.getfield 64, 3) := by decide +kernel
theorem dX8_choose_266 : decode cX8_choose 266 = .ok (.iload 4, 2) := by decide +kernel
theorem dX8_choose_268 : decode cX8_choose 268 = .ok (.iaload, 1) := by decide +kernel
theorem dX8_choose_269 : decode cX8_choose 269 = .ok (.aload_n 0, 1) := by decide +kernel
theorem dX8_choose_270 : decode cX8_choose 270 = .ok (.getfield 64, 3) := by decide +kernel
theorem dX8_choose_273 : decode cX8_choose 273 = .ok (.iload_n 3, 1) := by decide +kernel
theorem dX8_choose_274 : decode cX8_choose 274 = .ok (.iaload, 1) := by decide +kernel
theorem dX8_choose_275 : decode cX8_choose 275 = .ok (.if_icmp .gt 8, 3) := by decide +kernel
theorem dX8_choose_278 : decode cX8_choose 278 = .ok (.iload 4, 2) := by decide +kernel
theorem dX8_choose_280 : decode cX8_choose 280 = .ok (.goto 4, 3) := by decide +kernel
theorem dX8_choose_283 : decode cX8_choose 283 = .ok (.iload_n 3, 1) := by decide +kernel
theorem dX8_choose_284 : decode cX8_choose 284 = .ok (.istore_n 3, 1) := by decide +kernel
theorem dX8_choose_285 : decode cX8_choose 285 = .ok (.iinc 4 (-1), 3) := by decide +kernel
theorem dX8_choose_288 : decode cX8_choose 288 = .ok (.goto (-45), 3) := by decide +kernel
theorem dX8_choose_291 : decode cX8_choose 291 = .ok (.iload_n 3, 1) := by decide +kernel
theorem dX8_choose_292 : decode cX8_choose 292 = .ok (.ifCond .ge 6, 3) := by decide +kernel
theorem dX8_choose_295 : decode cX8_choose 295 = .ok (.bipush (-5), 2) := by decide +kernel
theorem dX8_choose_297 : decode cX8_choose 297 = .ok (.ireturn, 1) := by decide +kernel
theorem dX8_choose_298 : decode cX8_choose 298 = .ok (.aload_n 0, 1) := by decide +kernel
theorem dX8_choose_299 : decode cX8_choose 299 = .ok (.getfield 64, 3) := by decide +kernel
theorem dX8_choose_302 : decode cX8_choose 302 = .ok (.iload_n 3, 1) := by decide +kernel
theorem dX8_choose_303 : decode cX8_choose 303 = .ok (.iaload, 1) := by decide +kernel
theorem dX8_choose_304 : decode cX8_choose 304 = .ok (.istore 4, 2) := by decide +kernel
theorem dX8_choose_306 : decode cX8_choose 306 = .ok (.iconst 0, 1) := by decide +kernel
theorem dX8_choose_307 : decode cX8_choose 307 = .ok (.istore 5, 2) := by decide +kernel
theorem dX8_choose_309 : decode cX8_choose 309 = .ok (.iload 5, 2) := by decide +kernel
theorem dX8_choose_311 : decode cX8_choose 311 = .ok (.aload_n 0, 1) := by decide +kernel
theorem dX8_choose_312 : decode cX8_choose 312 = .ok (.getfield 83, 3) := by decide +kernel
theorem dX8_choose_315 : decode cX8_choose 315 = .ok (.if_icmp .ge 25, 3) := by decide +kernel
theorem dX8_choose_318 : decode cX8_choose 318 = .ok (.aload_n 0, 1) := by decide +kernel
theorem dX8_choose_319 : decode cX8_choose 319 = .ok (.getfield 33, 3) := by decide +kernel
theorem dX8_choose_322 : decode cX8_choose 322 = .ok (.iload 5, 2) := by decide +kernel
theorem dX8_choose_324 : decode cX8_choose 324 = .ok (.iconst 0, 1) := by decide +kernel
theorem dX8_choose_325 : decode cX8_choose 325 = .ok (.bastore, 1) := by decide +kernel
theorem dX8_choose_326 : decode cX8_choose 326 = .ok (.aload_n 0, 1) := by decide +kernel
theorem dX8_choose_327 : decode cX8_choose 327 = .ok (.getfield 37, 3) := by decide +kernel
theorem dX8_choose_330 : decode cX8_choose 330 = .ok (.iload 5, 2) := by decide +kernel
theorem dX8_choose_332 : decode cX8_choose 332 = .ok (.iconst 0, 1) := by decide +kernel
theorem dX8_choose_333 : decode cX8_choose 333 = .ok (.iastore, 1) := by decide +kernel
theorem dX8_choose_334 : decode cX8_choose 334 = .ok (.iinc 5 1, 3) := by decide +kernel
theorem dX8_choose_337 : decode cX8_choose 337 = .ok (.goto (-28), 3) := by decide +kernel
theorem dX8_choose_340 : decode cX8_choose 340 = .ok (.aload_n 0, 1) := by decide +kernel
theorem dX8_choose_341 : decode cX8_choose 341 = .ok (.getfield 33, 3) := by decide +kernel
theorem dX8_choose_344 : decode cX8_choose 344 = .ok (.iconst 0, 1) := by decide +kernel
theorem dX8_choose_345 : decode cX8_choose 345 = .ok (.iconst 1, 1) := by decide +kernel
theorem dX8_choose_346 : decode cX8_choose 346 = .ok (.bastore, 1) := by decide +kernel
theorem dX8_choose_347 : decode cX8_choose 347 = .ok (.aload_n 0, 1) := by decide +kernel
theorem dX8_choose_348 : decode cX8_choose 348 = .ok (.getfield 37, 3) := by decide +kernel
theorem dX8_choose_351 : decode cX8_choose 351 = .ok (.iconst 0, 1) := by decide +kernel
theorem dX8_choose_352 : decode cX8_choose 352 = .ok (.aload_n 0, 1) := by decide +kernel
theorem dX8_choose_353 : decode cX8_choose 353 = .ok (.iload_n 3, 1) := by decide +kernel
theorem dX8_choose_354 : decode cX8_choose 354 = .ok (.iload_n 1, 1) := by decide +kernel
theorem dX8_choose_355 : decode cX8_choose 355 = .ok (.invokevirtual 185, 3) := by decide +kernel
theorem dX8_choose_358 : decode cX8_choose 358 = .ok (.iastore, 1) := by decide +kernel
theorem dX8_choose_359 : decode cX8_choose 359 = .ok (.iload_n 3, 1) := by decide +kernel
theorem dX8_choose_360 : decode cX8_choose 360 = .ok (.iconst 3, 1) := by decide +kernel
theorem dX8_choose_361 : decode cX8_choose 361 = .ok (.idiv, 1) := by decide +kernel
theorem dX8_choose_362 : decode cX8_choose 362 = .ok (.aload_n 0, 1) := by decide +kernel
theorem dX8_choose_363 : decode cX8_choose 363 = .ok (.getfield 83, 3) := by decide +kernel
theorem dX8_choose_366 : decode cX8_choose 366 = .ok (.iconst 1, 1) := by decide +kernel
theorem dX8_choose_367 : decode cX8_choose 367 = .ok (.isub, 1) := by decide +kernel
theorem dX8_choose_368 : decode cX8_choose 368 = .ok (.if_icmp .ge 87, 3) := by decide +kernel
theorem dX8_choose_371 : decode cX8_choose 371 = .ok (.iconst 3, 1) := by decide +kernel
theorem dX8_choose_372 : decode cX8_choose 372 = .ok (.iload_n 3, 1) := by decide +kernel
theorem dX8_choose_373 : decode cX8_choose 373 = .ok (.iconst 3, 1) := by decide +kernel
theorem dX8_choose_374 : decode cX8_choose 374 = .ok (.idiv, 1) := by decide +kernel
theorem dX8_choose_375 : decode cX8_choose 375 = .ok (.iconst 1, 1) := by decide +kernel
theorem dX8_choose_376 : decode cX8_choose 376 = .ok (.iadd, 1) := by decide +kernel
theorem dX8_choose_377 : decode cX8_choose 377 = .ok (.imul, 1) := by decide +kernel
theorem dX8_choose_378 : decode cX8_choose 378 = .ok (.istore 5, 2) := by decide +kernel
theorem dX8_choose_380 : decode cX8_choose 380 = .ok (.aload_n 0, 1) := by decide +kernel
theorem dX8_choose_381 : decode cX8_choose 381 = .ok (.getfield 67, 3) := by decide +kernel
theorem dX8_choose_384 : decode cX8_choose 384 = .ok (.bipush 120, 2) := by decide +kernel
theorem dX8_choose_386 : decode cX8_choose 386 = .ok (.iload_n 3, 1) := by decide +kernel
theorem dX8_choose_387 : decode cX8_choose 387 = .ok (.imul, 1) := by decide +kernel
theorem dX8_choose_388 : decode cX8_choose 388 = .ok (.iload 5, 2) := by decide +kernel
theorem dX8_choose_390 : decode cX8_choose 390 = .ok (.iadd, 1) := by decide +kernel
theorem dX8_choose_391 : decode cX8_choose 391 = .ok (.baload, 1) := by decide +kernel
theorem dX8_choose_392 : decode cX8_choose 392 = .ok (.ifCond .eq 28, 3) := by decide +kernel
theorem dX8_choose_395 : decode cX8_choose 395 = .ok (.aload_n 0, 1) := by decide +kernel
theorem dX8_choose_396 : decode cX8_choose 396 = .ok (.getfield 64, 3) := by decide +kernel
theorem dX8_choose_399 : decode cX8_choose 399 = .ok (.iload 5, 2) := by decide +kernel
theorem dX8_choose_401 : decode cX8_choose 401 = .ok (.iaload, 1) := by decide +kernel
theorem dX8_choose_402 : decode cX8_choose 402 = .ok (.aload_n 0, 1) := by decide +kernel
theorem dX8_choose_403 : decode cX8_choose 403 = .ok (.getfield 30, 3) := by decide +kernel
theorem dX8_choose_406 : decode cX8_choose 406 = .ok (.iload_n 3, 1) := by decide +kernel
theorem dX8_choose_407 : decode cX8_choose 407 = .ok (.iconst 3, 1) := by decide +kernel
theorem dX8_choose_408 : decode cX8_choose 408 = .ok (.idiv, 1) := by decide +kernel
theorem dX8_choose_409 : decode cX8_choose 409 = .ok (.iaload, 1) := by decide +kernel
theorem dX8_choose_410 : decode cX8_choose 410 = .ok (.iadd, 1) := by decide +kernel
theorem dX8_choose_411 : decode cX8_choose 411 = .ok (.aload_n 0, 1) := by decide +kernel
theorem dX8_choose_412 : decode cX8_choose 412 = .ok (.getfield 64, 3) := by decide +kernel
theorem dX8_choose_415 : decode cX8_choose 415 = .ok (.iload_n 3, 1) := by decide +kernel
theorem dX8_choose_416 : decode cX8_choose 416 = .ok (.iaload, 1) := by decide +kernel
theorem dX8_choose_417 : decode cX8_choose 417 = .ok (.if_icmp .eq 9, 3) := by decide +kernel
theorem dX8_choose_420 : decode cX8_choose 420 = .ok (.iinc 5 1, 3) := by decide +kernel
theorem dX8_choose_423 : decode cX8_choose 423 = .ok (.goto (-43), 3) := by decide +kernel
theorem dX8_choose_426 : decode cX8_choose 426 = .ok (.iload 5, 2) := by decide +kernel
theorem dX8_choose_428 : decode cX8_choose 428 = .ok (.istore_n 3, 1) := by decide +kernel
theorem dX8_choose_429 : decode cX8_choose 429 = .ok (.aload_n 0, 1) := by decide +kernel
theorem dX8_choose_430 : decode cX8_choose 430 = .ok (.getfield 33, 3) := by decide +kernel
theorem dX8_choose_433 : decode cX8_choose 433 = .ok (.iload_n 3, 1) := by decide +kernel
theorem dX8_choose_434 : decode cX8_choose 434 = .ok (.iconst 3, 1) := by decide +kernel
theorem dX8_choose_435 : decode cX8_choose 435 = .ok (.idiv, 1) := by decide +kernel
theorem dX8_choose_436 : decode cX8_choose 436 = .ok (.iconst 1, 1) := by decide +kernel
theorem dX8_choose_437 : decode cX8_choose 437 = .ok (.bastore, 1) := by decide +kernel
theorem dX8_choose_438 : decode cX8_choose 438 = .ok (.aload_n 0, 1) := by decide +kernel
theorem dX8_choose_439 : decode cX8_choose 439 = .ok (.getfield 37, 3) := by decide +kernel
theorem dX8_choose_442 : decode cX8_choose 442 = .ok (.iload_n 3, 1) := by decide +kernel
theorem dX8_choose_443 : decode cX8_choose 443 = .ok (.iconst 3, 1) := by decide +kernel
theorem dX8_choose_444 : decode cX8_choose 444 = .ok (.idiv, 1) := by decide +kernel
theorem dX8_choose_445 : decode cX8_choose 445 = .ok (.aload_n 0, 1) := by decide +kernel
theorem dX8_choose_446 : decode cX8_choose 446 = .ok (.iload_n 3, 1) := by decide +kernel
theorem dX8_choose_447 : decode cX8_choose 447 = .ok (.iload_n 1, 1) := by decide +kernel
theorem dX8_choose_448 : decode cX8_choose 448 = .ok (.invokevirtual 185, 3) := by decide +kernel
theorem dX8_choose_451 : decode cX8_choose 451 = .ok (.iastore, 1) := by decide +kernel
theorem dX8_choose_452 : decode cX8_choose 452 = .ok (.goto (-93), 3) := by decide +kernel
theorem dX8_choose_455 : decode cX8_choose 455 = .ok (.iload 4, 2) := by decide +kernel
theorem dX8_choose_457 : decode cX8_choose 457 = .ok (.ireturn, 1) := by decide +kernel
theorem dX8_price_0 : decode cX8_price 0 = .ok (.iconst 0, 1) := by decide +kernel
theorem dX8_price_1 : decode cX8_price 1 = .ok (.istore_n 1, 1) := by decide +kernel
theorem dX8_price_2 : decode cX8_price 2 = .ok (.iconst 0, 1) := by decide +kernel
theorem dX8_price_3 : decode cX8_price 3 = .ok (.istore_n 2, 1) := by decide +kernel
theorem dX8_price_4 : decode cX8_price 4 = .ok (.iload_n 2, 1) := by decide +kernel
theorem dX8_price_5 : decode cX8_price 5 = .ok (.aload_n 0, 1) := by decide +kernel
theorem dX8_price_6 : decode cX8_price 6 = .ok (.getfield 83, 3) := by decide +kernel
theorem dX8_price_9 : decode cX8_price 9 = .ok (.if_icmp .ge 31, 3) := by decide +kernel
theorem dX8_price_12 : decode cX8_price 12 = .ok (.iload_n 1, 1) := by decide +kernel
theorem dX8_price_13 : decode cX8_price 13 = .ok (.aload_n 0, 1) := by decide +kernel
theorem dX8_price_14 : decode cX8_price 14 = .ok (.getfield 33, 3) := by decide +kernel
theorem dX8_price_17 : decode cX8_price 17 = .ok (.iload_n 2, 1) := by decide +kernel
theorem dX8_price_18 : decode cX8_price 18 = .ok (.baload, 1) := by decide +kernel
theorem dX8_price_19 : decode cX8_price 19 = .ok (.ifCond .eq 12, 3) := by decide +kernel
theorem dX8_price_22 : decode cX8_price 22 = .ok (.aload_n 0, 1) := by decide +kernel
theorem dX8_price_23 : decode cX8_price 23 = .ok (.getfield 30, 3) := by decide +kernel
theorem dX8_price_26 : decode cX8_price 26 = .ok (.iload_n 2, 1) := by decide +kernel
theorem dX8_price_27 : decode cX8_price 27 = .ok (.iaload, 1) := by decide +kernel
theorem dX8_price_28 : decode cX8_price 28 = .ok (.goto 4, 3) := by decide +kernel
theorem dX8_price_31 : decode cX8_price 31 = .ok (.iconst 0, 1) := by decide +kernel
theorem dX8_price_32 : decode cX8_price 32 = .ok (.iadd, 1) := by decide +kernel
theorem dX8_price_33 : decode cX8_price 33 = .ok (.istore_n 1, 1) := by decide +kernel
theorem dX8_price_34 : decode cX8_price 34 = .ok (.iinc 2 1, 3) := by decide +kernel
theorem dX8_price_37 : decode cX8_price 37 = .ok (.goto (-33), 3) := by decide +kernel
theorem dX8_price_40 : decode cX8_price 40 = .ok (.iload_n 1, 1) := by decide +kernel
theorem dX8_price_41 : decode cX8_price 41 = .ok (.ireturn, 1) := by decide +kernel
set_option maxRecDepth 20000 in
theorem ggX8_bars_X8_masts : GoodIn wsX8_bars wsX8_masts := goodIn_r _ [10, 11, 12, 46, 47, 48, 49, 50, 51, 52, 53, 54, 55, 56, 57, 58, 59, 60, 61, 62, 63, 64, 65, 66, 67, 68, 69, 70, 71, 72] (by decide +kernel) (by decide +kernel)
set_option maxRecDepth 20000 in
theorem gX8_bars_X8_masts : GoodIn wsX8_bars (wsV RX8 102 RX8 yX8_masts wsX8_masts) := goodIn_app (goodIn_of _ (by decide +kernel)) ggX8_bars_X8_masts
set_option maxRecDepth 20000 in
theorem ggX8_bars_X8_in : GoodIn wsX8_bars wsX8_in := goodIn_r _ [15] (by decide +kernel) (by decide +kernel)
set_option maxRecDepth 20000 in
theorem gX8_bars_X8_in : GoodIn wsX8_bars (va_wsS RX8 79 yX8_in wsX8_in) := goodIn_app (goodIn_of _ (by decide +kernel)) ggX8_bars_X8_in
set_option maxRecDepth 20000 in
theorem ggX8_bars_X8_endOf : GoodIn wsX8_bars wsX8_endOf := goodIn_r _ [19, 11, 12, 46, 47, 48, 49, 50, 51, 52, 53, 54, 55, 56, 57, 58, 59, 60, 61, 62, 63, 64, 65, 66, 67, 68, 69, 70, 71, 72] (by decide +kernel) (by decide +kernel)
set_option maxRecDepth 20000 in
theorem gX8_bars_X8_endOf : GoodIn wsX8_bars (wsV RX8 147 RX8 yX8_endOf wsX8_endOf) := goodIn_app (goodIn_of _ (by decide +kernel)) ggX8_bars_X8_endOf
