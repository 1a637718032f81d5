theorem dX3_takes_71 : decode cX3_takes 71 = .ok (.bipush 11, 2) := by decide +kernel
theorem dX3_takes_73 : decode cX3_takes 73 = .ok (.invokevirtual 68, 3) := by decide +kernel
theorem dX3_takes_76 : decode cX3_takes 76 = .ok (.ireturn, 1) := by decide +kernel
theorem dX3_takes_77 : decode cX3_takes 77 = .ok (.aload_n 0, 1) := by decide +kernel
theorem dX3_takes_78 : decode cX3_takes 78 = .ok (.iload_n 2, 1) := by decide +kernel
theorem dX3_takes_79 : decode cX3_takes 79 = .ok (.bipush 6, 2) := by decide +kernel
theorem dX3_takes_81 : decode cX3_takes 81 = .ok (.invokevirtual 68, 3) := by decide +kernel
theorem dX3_takes_84 : decode cX3_takes 84 = .ok (.ireturn, 1) := by decide +kernel
theorem dX3_takes_85 : decode cX3_takes 85 = .ok (.aload_n 0, 1) := by decide +kernel
theorem dX3_takes_86 : decode cX3_takes 86 = .ok (.iload_n 2, 1) := by decide +kernel
theorem dX3_takes_87 : decode cX3_takes 87 = .ok (.bipush 7, 2) := by decide +kernel
theorem dX3_takes_89 : decode cX3_takes 89 = .ok (.invokevirtual 68, 3) := by decide +kernel
theorem dX3_takes_92 : decode cX3_takes 92 = .ok (.ireturn, 1) := by decide +kernel
theorem dX3_sumOf_0 : decode cX3_sumOf 0 = .ok (.lconst 0, 1) := by decide +kernel
theorem dX3_sumOf_1 : decode cX3_sumOf 1 = .ok (.lstore_n 2, 1) := by decide +kernel
theorem dX3_sumOf_2 : decode cX3_sumOf 2 = .ok (.iconst 0, 1) := by decide +kernel
theorem dX3_sumOf_3 : decode cX3_sumOf 3 = .ok (.istore 4, 2) := by decide +kernel
theorem dX3_sumOf_5 : decode cX3_sumOf 5 = .ok (.iload 4, 2) := by decide +kernel
theorem dX3_sumOf_7 : decode cX3_sumOf 7 = .ok (.aload_n 0, 1) := by decide +kernel
theorem dX3_sumOf_8 : decode cX3_sumOf 8 = .ok (.getfield 13, 3) := by decide +kernel
theorem dX3_sumOf_11 : decode cX3_sumOf 11 = .ok (.iload_n 1, 1) := by decide +kernel
theorem dX3_sumOf_12 : decode cX3_sumOf 12 = .ok (.iaload, 1) := by decide +kernel
theorem dX3_sumOf_13 : decode cX3_sumOf 13 = .ok (.if_icmp .ge 24, 3) := by decide +kernel
theorem dX3_sumOf_16 : decode cX3_sumOf 16 = .ok (.lload_n 2, 1) := by decide +kernel
theorem dX3_sumOf_17 : decode cX3_sumOf 17 = .ok (.aload_n 0, 1) := by decide +kernel
theorem dX3_sumOf_18 : decode cX3_sumOf 18 = .ok (.getfield 19, 3) := by decide +kernel
theorem dX3_sumOf_21 : decode cX3_sumOf 21 = .ok (.bipush 8, 2) := by decide +kernel
theorem dX3_sumOf_23 : decode cX3_sumOf 23 = .ok (.iload_n 1, 1) := by decide +kernel
theorem dX3_sumOf_24 : decode cX3_sumOf 24 = .ok (.imul, 1) := by decide +kernel
theorem dX3_sumOf_25 : decode cX3_sumOf 25 = .ok (.iload 4, 2) := by decide +kernel
theorem dX3_sumOf_27 : decode cX3_sumOf 27 = .ok (.iadd, 1) := by decide +kernel
theorem dX3_sumOf_28 : decode cX3_sumOf 28 = .ok (.laload, 1) := by decide +kernel
theorem dX3_sumOf_29 : decode cX3_sumOf 29 = .ok (.ladd, 1) := by decide +kernel
theorem dX3_sumOf_30 : decode cX3_sumOf 30 = .ok (.lstore_n 2, 1) := by decide +kernel
theorem dX3_sumOf_31 : decode cX3_sumOf 31 = .ok (.iinc 4 1, 3) := by decide +kernel
theorem dX3_sumOf_34 : decode cX3_sumOf 34 = .ok (.goto (-29), 3) := by decide +kernel
theorem dX3_sumOf_37 : decode cX3_sumOf 37 = .ok (.lload_n 2, 1) := by decide +kernel
theorem dX3_sumOf_38 : decode cX3_sumOf 38 = .ok (.lreturn, 1) := by decide +kernel
set_option maxRecDepth 20000 in
theorem ggX3_sum_X3_isRow : GoodIn wsX3_sum wsX3_isRow := goodIn_r _ [9, 2, 23, 24, 25, 26, 27, 28, 29, 30, 31, 32, 33, 34, 35] (by decide +kernel) (by decide +kernel)
set_option maxRecDepth 20000 in
theorem gX3_sum_X3_isRow : GoodIn wsX3_sum (wsV RX3 61 RX3 yX3_isRow wsX3_isRow) := goodIn_app (goodIn_of _ (by decide +kernel)) ggX3_sum_X3_isRow
set_option maxRecDepth 20000 in
theorem ggX3_sum_X3_make : GoodIn wsX3_sum wsX3_make := goodIn_r _ [13, 14, 2, 3, 15, 1, 4, 23, 24, 25, 26, 27, 28, 29, 30, 31, 32, 33, 34, 35] (by decide +kernel) (by decide +kernel)
set_option maxRecDepth 20000 in
theorem gX3_sum_X3_make : GoodIn wsX3_sum (wsV RX3 53 RX3 yX3_make wsX3_make) := goodIn_app (goodIn_of _ (by decide +kernel)) ggX3_sum_X3_make
set_option maxRecDepth 20000 in
theorem ggX3_sum_X3_sumOf : GoodIn wsX3_sum wsX3_sumOf := goodIn_r _ [19, 3, 1, 23, 24, 25, 26, 27, 28, 29, 30, 31, 32, 33, 34, 35] (by decide +kernel) (by decide +kernel)
set_option maxRecDepth 20000 in
theorem gX3_sum_X3_sumOf : GoodIn wsX3_sum (wsV RX3 71 RX3 yX3_sumOf wsX3_sumOf) := goodIn_app (goodIn_of _ (by decide +kernel)) ggX3_sum_X3_sumOf
set_option maxRecDepth 20000 in
theorem ggX3_sum_X3_with : GoodIn wsX3_sum wsX3_with := goodIn_r _ [22] (by decide +kernel) (by decide +kernel)
set_option maxRecDepth 20000 in
theorem gX3_sum_X3_with : GoodIn wsX3_sum (va_wsS RX3 75 yX3_with wsX3_with) := goodIn_app (goodIn_of _ (by decide +kernel)) ggX3_sum_X3_with
theorem dX3_sum_0 : decode cX3_sum 0 = .ok (.aload_n 0, 1) := by decide +kernel
theorem dX3_sum_1 : decode cX3_sum 1 = .ok (.iload_n 1, 1) := by decide +kernel
theorem dX3_sum_2 : decode cX3_sum 2 = .ok (.invokevirtual 61, 3) := by decide +kernel
theorem dX3_sum_5 : decode cX3_sum 5 = .ok (.ifCond .eq 26, 3) := by decide +kernel
theorem dX3_sum_8 : decode cX3_sum 8 = .ok (.aload_n 0, 1) := by decide +kernel
theorem dX3_sum_9 : decode cX3_sum 9 = .ok (.iconst 2, 1) := by decide +kernel
theorem dX3_sum_10 : decode cX3_sum 10 = .ok (.iconst 1, 1) := by decide +kernel
theorem dX3_sum_11 : decode cX3_sum 11 = .ok (.invokevirtual 53, 3) := by decide +kernel
theorem dX3_sum_14 : decode cX3_sum 14 = .ok (.istore_n 2, 1) := by decide +kernel
theorem dX3_sum_15 : decode cX3_sum 15 = .ok (.aload_n 0, 1) := by decide +kernel
theorem dX3_sum_16 : decode cX3_sum 16 = .ok (.getfield 19, 3) := by decide +kernel
theorem dX3_sum_19 : decode cX3_sum 19 = .ok (.bipush 8, 2) := by decide +kernel
theorem dX3_sum_21 : decode cX3_sum 21 = .ok (.iload_n 2, 1) := by decide +kernel
theorem dX3_sum_22 : decode cX3_sum 22 = .ok (.imul, 1) := by decide +kernel
theorem dX3_sum_23 : decode cX3_sum 23 = .ok (.aload_n 0, 1) := by decide +kernel
theorem dX3_sum_24 : decode cX3_sum 24 = .ok (.iload_n 1, 1) := by decide +kernel
theorem dX3_sum_25 : decode cX3_sum 25 = .ok (.invokevirtual 71, 3) := by decide +kernel
theorem dX3_sum_28 : decode cX3_sum 28 = .ok (.lastore, 1) := by decide +kernel
theorem dX3_sum_29 : decode cX3_sum 29 = .ok (.iload_n 2, 1) := by decide +kernel
theorem dX3_sum_30 : decode cX3_sum 30 = .ok (.ireturn, 1) := by decide +kernel
theorem dX3_sum_31 : decode cX3_sum 31 = .ok (.aload_n 0, 1) := by decide +kernel
theorem dX3_sum_32 : decode cX3_sum 32 = .ok (.getfield 7, 3) := by decide +kernel
theorem dX3_sum_35 : decode cX3_sum 35 = .ok (.iload_n 1, 1) := by decide +kernel
theorem dX3_sum_36 : decode cX3_sum 36 = .ok (.iaload, 1) := by decide +kernel
theorem dX3_sum_37 : decode cX3_sum 37 = .ok (.iconst 3, 1) := by decide +kernel
theorem dX3_sum_38 : decode cX3_sum 38 = .ok (.if_icmp .eq 8, 3) := by decide +kernel
theorem dX3_sum_41 : decode cX3_sum 41 = .ok (.iconst 1, 1) := by decide +kernel
theorem dX3_sum_42 : decode cX3_sum 42 = .ok (.invokestatic 75, 3) := by decide +kernel
theorem dX3_sum_45 : decode cX3_sum 45 = .ok (.ireturn, 1) := by decide +kernel
theorem dX3_sum_46 : decode cX3_sum 46 = .ok (.aload_n 0, 1) := by decide +kernel
theorem dX3_sum_47 : decode cX3_sum 47 = .ok (.iconst 2, 1) := by decide +kernel
theorem dX3_sum_48 : decode cX3_sum 48 = .ok (.aload_n 0, 1) := by decide +kernel
theorem dX3_sum_49 : decode cX3_sum 49 = .ok (.getfield 13, 3) := by decide +kernel
theorem dX3_sum_52 : decode cX3_sum 52 = .ok (.iload_n 1, 1) := by decide +kernel
theorem dX3_sum_53 : decode cX3_sum 53 = .ok (.iaload, 1) := by decide +kernel
theorem dX3_sum_54 : decode cX3_sum 54 = .ok (.invokevirtual 53, 3) := by decide +kernel
theorem dX3_sum_57 : decode cX3_sum 57 = .ok (.istore_n 2, 1) := by decide +kernel
theorem dX3_sum_58 : decode cX3_sum 58 = .ok (.iconst 0, 1) := by decide +kernel
theorem dX3_sum_59 : decode cX3_sum 59 = .ok (.istore_n 3, 1) := by decide +kernel
theorem dX3_sum_60 : decode cX3_sum 60 = .ok (.iload_n 3, 1) := by decide +kernel
theorem dX3_sum_61 : decode cX3_sum 61 = .ok (.aload_n 0, 1) := by decide +kernel
theorem dX3_sum_62 : decode cX3_sum 62 = .ok (.getfield 13, 3) := by decide +kernel
theorem dX3_sum_65 : decode cX3_sum 65 = .ok (.iload_n 1, 1) := by decide +kernel
theorem dX3_sum_66 : decode cX3_sum 66 = .ok (.iaload, 1) := by decide +kernel
theorem dX3_sum_67 : decode cX3_sum 67 = .ok (.if_icmp .ge 49, 3) := by decide +kernel
theorem dX3_sum_70 : decode cX3_sum 70 = .ok (.aload_n 0, 1) := by decide +kernel
theorem dX3_sum_71 : decode cX3_sum 71 = .ok (.getfield 23, 3) := by decide +kernel
theorem dX3_sum_74 : decode cX3_sum 74 = .ok (.bipush 8, 2) := by decide +kernel
theorem dX3_sum_76 : decode cX3_sum 76 = .ok (.iload_n 1, 1) := by decide +kernel
theorem dX3_sum_77 : decode cX3_sum 77 = .ok (.imul, 1) := by decide +kernel
theorem dX3_sum_78 : decode cX3_sum 78 = .ok (.iload_n 3, 1) := by decide +kernel
theorem dX3_sum_79 : decode cX3_sum 79 = .ok (.iadd, 1) := by decide +kernel
theorem dX3_sum_80 : decode cX3_sum 80 = .ok (.iaload, 1) := by decide +kernel
theorem dX3_sum_81 : decode cX3_sum 81 = .ok (.istore 4, 2) := by decide +kernel
theorem dX3_sum_83 : decode cX3_sum 83 = .ok (.aload_n 0, 1) := by decide +kernel
theorem dX3_sum_84 : decode cX3_sum 84 = .ok (.getfield 19, 3) := by decide +kernel
theorem dX3_sum_87 : decode cX3_sum 87 = .ok (.bipush 8, 2) := by decide +kernel
theorem dX3_sum_89 : decode cX3_sum 89 = .ok (.iload_n 2, 1) := by decide +kernel
theorem dX3_sum_90 : decode cX3_sum 90 = .ok (.imul, 1) := by decide +kernel
theorem dX3_sum_91 : decode cX3_sum 91 = .ok (.iload_n 3, 1) := by decide +kernel
theorem dX3_sum_92 : decode cX3_sum 92 = .ok (.iadd, 1) := by decide +kernel
theorem dX3_sum_93 : decode cX3_sum 93 = .ok (.iload 4, 2) := by decide +kernel
theorem dX3_sum_95 : decode cX3_sum 95 = .ok (.iconst (-1), 1) := by decide +kernel
theorem dX3_sum_96 : decode cX3_sum 96 = .ok (.if_icmp .ne 7, 3) := by decide +kernel
theorem dX3_sum_99 : decode cX3_sum 99 = .ok (.lconst 0, 1) := by decide +kernel
theorem dX3_sum_100 : decode cX3_sum 100 = .ok (.goto 9, 3) := by decide +kernel
theorem dX3_sum_103 : decode cX3_sum 103 = .ok (.aload_n 0, 1) := by decide +kernel
theorem dX3_sum_104 : decode cX3_sum 104 = .ok (.iload 4, 2) := by decide +kernel
theorem dX3_sum_106 : decode cX3_sum 106 = .ok (.invokevirtual 71, 3) := by decide +kernel
theorem dX3_sum_109 : decode cX3_sum 109 = .ok (.lastore, 1) := by decide +kernel
theorem dX3_sum_110 : decode cX3_sum 110 = .ok (.iinc 3 1, 3) := by decide +kernel
theorem dX3_sum_113 : decode cX3_sum 113 = .ok (.goto (-53), 3) := by decide +kernel
theorem dX3_sum_116 : decode cX3_sum 116 = .ok (.iload_n 2, 1) := by decide +kernel
theorem dX3_sum_117 : decode cX3_sum 117 = .ok (.ireturn, 1) := by decide +kernel
set_option maxRecDepth 20000 in
theorem ggX3_turned_X3_isRow : GoodIn wsX3_turned wsX3_isRow := goodIn_r _ [8, 1, 25, 26, 27, 28, 29, 30, 31, 32, 33, 34, 35, 36, 37] (by decide +kernel) (by decide +kernel)
set_option maxRecDepth 20000 in
theorem gX3_turned_X3_isRow : GoodIn wsX3_turned (wsV RX3 61 RX3 yX3_isRow wsX3_isRow) := goodIn_app (goodIn_of _ (by decide +kernel)) ggX3_turned_X3_isRow
set_option maxRecDepth 20000 in
theorem ggX3_turned_X3_isIn : GoodIn wsX3_turned wsX3_isIn := goodIn_r _ [11] (by decide +kernel) (by decide +kernel)
set_option maxRecDepth 20000 in
theorem gX3_turned_X3_isIn : GoodIn wsX3_turned (va_wsS RX3 45 yX3_isIn wsX3_isIn) := goodIn_app (goodIn_of _ (by decide +kernel)) ggX3_turned_X3_isIn
set_option maxRecDepth 20000 in
theorem ggX3_turned_X3_with : GoodIn wsX3_turned wsX3_with := goodIn_r _ [14] (by decide +kernel) (by decide +kernel)
set_option maxRecDepth 20000 in
theorem gX3_turned_X3_with : GoodIn wsX3_turned (va_wsS RX3 75 yX3_with wsX3_with) := goodIn_app (goodIn_of _ (by decide +kernel)) ggX3_turned_X3_with
set_option maxRecDepth 20000 in
theorem ggX3_turned_X3_make : GoodIn wsX3_turned wsX3_make := goodIn_r _ [18, 19, 1, 2, 20, 3, 21, 25, 26, 27, 28, 29, 30, 31, 32, 33, 34, 35, 36, 37] (by decide +kernel) (by decide +kernel)
set_option maxRecDepth 20000 in
theorem gX3_turned_X3_make : GoodIn wsX3_turned (wsV RX3 53 RX3 yX3_make wsX3_make) := goodIn_app (goodIn_of _ (by decide +kernel)) ggX3_turned_X3_make
set_option maxRecDepth 20000 in
theorem ggX3_turned_X3_cut : GoodIn wsX3_turned wsX3_cut := goodIn_r _ [24] (by decide +kernel) (by decide +kernel)
set_option maxRecDepth 20000 in
theorem gX3_turned_X3_cut : GoodIn wsX3_turned (va_wsS RX3 64 yX3_cut wsX3_cut) := goodIn_app (goodIn_of _ (by decide +kernel)) ggX3_turned_X3_cut
theorem dX3_turned_0 : decode cX3_turned 0 = .ok (.aload_n 0, 1) := by decide +kernel
theorem dX3_turned_1 : decode cX3_turned 1 = .ok (.getfield 7, 3) := by decide +kernel
theorem dX3_turned_4 : decode cX3_turned 4 = .ok (.iload_n 1, 1) := by decide +kernel
theorem dX3_turned_5 : decode cX3_turned 5 = .ok (.iaload, 1) := by decide +kernel
theorem dX3_turned_6 : decode cX3_turned 6 = .ok (.iload_n 2, 1) := by decide +kernel
theorem dX3_turned_7 : decode cX3_turned 7 = .ok (.iadd, 1) := by decide +kernel
theorem dX3_turned_8 : decode cX3_turned 8 = .ok (.istore_n 3, 1) := by decide +kernel
theorem dX3_turned_9 : decode cX3_turned 9 = .ok (.aload_n 0, 1) := by decide +kernel
theorem dX3_turned_10 : decode cX3_turned 10 = .ok (.iload_n 1, 1) := by decide +kernel
theorem dX3_turned_11 : decode cX3_turned 11 = .ok (.invokevirtual 61, 3) := by decide +kernel
theorem dX3_turned_14 : decode cX3_turned 14 = .ok (.ifCond .eq 12, 3) := by decide +kernel
theorem dX3_turned_17 : decode cX3_turned 17 = .ok (.iload_n 3, 1) := by decide +kernel
theorem dX3_turned_18 : decode cX3_turned 18 = .ok (.iconst 0, 1) := by decide +kernel
theorem dX3_turned_19 : decode cX3_turned 19 = .ok (.iconst 2, 1) := by decide +kernel
theorem dX3_turned_20 : decode cX3_turned 20 = .ok (.invokestatic 45, 3) := by decide +kernel
theorem dX3_turned_23 : decode cX3_turned 23 = .ok (.ifCond .ne 8, 3) := by decide +kernel
theorem dX3_turned_26 : decode cX3_turned 26 = .ok (.iconst 1, 1) := by decide +kernel
theorem dX3_turned_27 : decode cX3_turned 27 = .ok (.invokestatic 75, 3) := by decide +kernel
theorem dX3_turned_30 : decode cX3_turned 30 = .ok (.ireturn, 1) := by decide +kernel
theorem dX3_turned_31 : decode cX3_turned 31 = .ok (.aload_n 0, 1) := by decide +kernel
theorem dX3_turned_32 : decode cX3_turned 32 = .ok (.iload_n 3, 1) := by decide +kernel
theorem dX3_turned_33 : decode cX3_turned 33 = .ok (.aload_n 0, 1) := by decide +kernel
theorem dX3_turned_34 : decode cX3_turned 34 = .ok (.getfield 13, 3) := by decide +kernel
theorem dX3_turned_37 : decode cX3_turned 37 = .ok (.iload_n 1, 1) := by decide +kernel
theorem dX3_turned_38 : decode cX3_turned 38 = .ok (.iaload, 1) := by decide +kernel
theorem dX3_turned_39 : decode cX3_turned 39 = .ok (.invokevirtual 53, 3) := by decide +kernel
theorem dX3_turned_42 : decode cX3_turned 42 = .ok (.istore 4, 2) := by decide +kernel
theorem dX3_turned_44 : decode cX3_turned 44 = .ok (.iconst 0, 1) := by decide +kernel
theorem dX3_turned_45 : decode cX3_turned 45 = .ok (.istore 5, 2) := by decide +kernel
theorem dX3_turned_47 : decode cX3_turned 47 = .ok (.iload 5, 2) := by decide +kernel
theorem dX3_turned_49 : decode cX3_turned 49 = .ok (.aload_n 0, 1) := by decide +kernel
theorem dX3_turned_50 : decode cX3_turned 50 = .ok (.getfield 13, 3) := by decide +kernel
theorem dX3_turned_53 : decode cX3_turned 53 = .ok (.iload_n 1, 1) := by decide +kernel
theorem dX3_turned_54 : decode cX3_turned 54 = .ok (.iaload, 1) := by decide +kernel
theorem dX3_turned_55 : decode cX3_turned 55 = .ok (.if_icmp .ge 38, 3) := by decide +kernel
theorem dX3_turned_58 : decode cX3_turned 58 = .ok (.aload_n 0, 1) := by decide +kernel
theorem dX3_turned_59 : decode cX3_turned 59 = .ok (.getfield 19, 3) := by decide +kernel
theorem dX3_turned_62 : decode cX3_turned 62 = .ok (.bipush 8, 2) := by decide +kernel
theorem dX3_turned_64 : decode cX3_turned 64 = .ok (.iload 4, 2) := by decide +kernel
theorem dX3_turned_66 : decode cX3_turned 66 = .ok (.imul, 1) := by decide +kernel
theorem dX3_turned_67 : decode cX3_turned 67 = .ok (.iload 5, 2) := by decide +kernel
theorem dX3_turned_69 : decode cX3_turned 69 = .ok (.iadd, 1) := by decide +kernel
theorem dX3_turned_70 : decode cX3_turned 70 = .ok (.iload_n 3, 1) := by decide +kernel
theorem dX3_turned_71 : decode cX3_turned 71 = .ok (.aload_n 0, 1) := by decide +kernel
theorem dX3_turned_72 : decode cX3_turned 72 = .ok (.getfield 19, 3) := by decide +kernel
theorem dX3_turned_75 : decode cX3_turned 75 = .ok (.bipush 8, 2) := by decide +kernel
theorem dX3_turned_77 : decode cX3_turned 77 = .ok (.iload_n 1, 1) := by decide +kernel
theorem dX3_turned_78 : decode cX3_turned 78 = .ok (.imul, 1) := by decide +kernel
theorem dX3_turned_79 : decode cX3_turned 79 = .ok (.iload 5, 2) := by decide +kernel
theorem dX3_turned_81 : decode cX3_turned 81 = .ok (.iadd, 1) := by decide +kernel
theorem dX3_turned_82 : decode cX3_turned 82 = .ok (.laload, 1) := by decide +kernel
theorem dX3_turned_83 : decode cX3_turned 83 = .ok (.invokestatic 64, 3) := by decide +kernel
theorem dX3_turned_86 : decode cX3_turned 86 = .ok (.lastore, 1) := by decide +kernel
theorem dX3_turned_87 : decode cX3_turned 87 = .ok (.iinc 5 1, 3) := by decide +kernel
theorem dX3_turned_90 : decode cX3_turned 90 = .ok (.goto (-43), 3) := by decide +kernel
theorem dX3_turned_93 : decode cX3_turned 93 = .ok (.iload 4, 2) := by decide +kernel
theorem dX3_turned_95 : decode cX3_turned 95 = .ok (.ireturn, 1) := by decide +kernel
set_option maxRecDepth 20000 in
theorem ggX3_tap_X3_with : GoodIn wsX3_tap wsX3_with := goodIn_r _ [6] (by decide +kernel) (by decide +kernel)
set_option maxRecDepth 20000 in
theorem gX3_tap_X3_with : GoodIn wsX3_tap (va_wsS RX3 75 yX3_with wsX3_with) := goodIn_app (goodIn_of _ (by decide +kernel)) ggX3_tap_X3_with
set_option maxRecDepth 20000 in
theorem ggX3_tap_X3_hasPlaces : GoodIn wsX3_tap wsX3_hasPlaces := goodIn_r _ [10, 11, 15, 16, 17, 18, 19, 20, 21, 22, 23, 24, 25, 26, 27] (by decide +kernel) (by decide +kernel)
set_option maxRecDepth 20000 in
theorem gX3_tap_X3_hasPlaces : GoodIn wsX3_tap (wsV RX3 79 RX3 yX3_hasPlaces wsX3_hasPlaces) := goodIn_app (goodIn_of _ (by decide +kernel)) ggX3_tap_X3_hasPlaces
set_option maxRecDepth 20000 in
theorem ggX3_tap_X3_isIn : GoodIn wsX3_tap wsX3_isIn := goodIn_r _ [14] (by decide +kernel) (by decide +kernel)
set_option maxRecDepth 20000 in
theorem gX3_tap_X3_isIn : GoodIn wsX3_tap (va_wsS RX3 45 yX3_isIn wsX3_isIn) := goodIn_app (goodIn_of _ (by decide +kernel)) ggX3_tap_X3_isIn
theorem dX3_tap_0 : decode cX3_tap 0 = .ok (.iload_n 1, 1) := by decide +kernel
theorem dX3_tap_1 : decode cX3_tap 1 = .ok (.iconst (-1), 1) := by decide +kernel
theorem dX3_tap_2 : decode cX3_tap 2 = .ok (.if_icmp .ne 8, 3) := by decide +kernel
theorem dX3_tap_5 : decode cX3_tap 5 = .ok (.iconst 2, 1) := by decide +kernel
theorem dX3_tap_6 : decode cX3_tap 6 = .ok (.invokestatic 75, 3) := by decide +kernel
theorem dX3_tap_9 : decode cX3_tap 9 = .ok (.ireturn, 1) := by decide +kernel
theorem dX3_tap_10 : decode cX3_tap 10 = .ok (.aload_n 0, 1) := by decide +kernel
theorem dX3_tap_11 : decode cX3_tap 11 = .ok (.iload_n 1, 1) := by decide +kernel
theorem dX3_tap_12 : decode cX3_tap 12 = .ok (.invokevirtual 79, 3) := by decide +kernel
theorem dX3_tap_15 : decode cX3_tap 15 = .ok (.ifCond .ne 8, 3) := by decide +kernel
theorem dX3_tap_18 : decode cX3_tap 18 = .ok (.iconst 1, 1) := by decide +kernel
theorem dX3_tap_19 : decode cX3_tap 19 = .ok (.invokestatic 75, 3) := by decide +kernel
theorem dX3_tap_22 : decode cX3_tap 22 = .ok (.ireturn, 1) := by decide +kernel
theorem dX3_tap_23 : decode cX3_tap 23 = .ok (.iload_n 2, 1) := by decide +kernel
theorem dX3_tap_24 : decode cX3_tap 24 = .ok (.iconst 0, 1) := by decide +kernel
theorem dX3_tap_25 : decode cX3_tap 25 = .ok (.aload_n 0, 1) := by decide +kernel
theorem dX3_tap_26 : decode cX3_tap 26 = .ok (.getfield 13, 3) := by decide +kernel
theorem dX3_tap_29 : decode cX3_tap 29 = .ok (.iload_n 1, 1) := by decide +kernel
theorem dX3_tap_30 : decode cX3_tap 30 = .ok (.iaload, 1) := by decide +kernel
theorem dX3_tap_31 : decode cX3_tap 31 = .ok (.iconst 1, 1) := by decide +kernel
theorem dX3_tap_32 : decode cX3_tap 32 = .ok (.isub, 1) := by decide +kernel
theorem dX3_tap_33 : decode cX3_tap 33 = .ok (.invokestatic 45, 3) := by decide +kernel
theorem dX3_tap_36 : decode cX3_tap 36 = .ok (.ifCond .ne 8, 3) := by decide +kernel
theorem dX3_tap_39 : decode cX3_tap 39 = .ok (.iconst 3, 1) := by decide +kernel
theorem dX3_tap_40 : decode cX3_tap 40 = .ok (.invokestatic 75, 3) := by decide +kernel
theorem dX3_tap_43 : decode cX3_tap 43 = .ok (.ireturn, 1) := by decide +kernel
theorem dX3_tap_44 : decode cX3_tap 44 = .ok (.aload_n 0, 1) := by decide +kernel
theorem dX3_tap_45 : decode cX3_tap 45 = .ok (.getfield 23, 3) := by decide +kernel
theorem dX3_tap_48 : decode cX3_tap 48 = .ok (.bipush 8, 2) := by decide +kernel
theorem dX3_tap_50 : decode cX3_tap 50 = .ok (.iload_n 1, 1) := by decide +kernel
theorem dX3_tap_51 : decode cX3_tap 51 = .ok (.imul, 1) := by decide +kernel
theorem dX3_tap_52 : decode cX3_tap 52 = .ok (.iload_n 2, 1) := by decide +kernel
theorem dX3_tap_53 : decode cX3_tap 53 = .ok (.iadd, 1) := by decide +kernel
theorem dX3_tap_54 : decode cX3_tap 54 = .ok (.iaload, 1) := by decide +kernel
theorem dX3_tap_55 : decode cX3_tap 55 = .ok (.istore_n 3, 1) := by decide +kernel
theorem dX3_tap_56 : decode cX3_tap 56 = .ok (.iload_n 3, 1) := by decide +kernel
theorem dX3_tap_57 : decode cX3_tap 57 = .ok (.iconst (-1), 1) := by decide +kernel
theorem dX3_tap_58 : decode cX3_tap 58 = .ok (.if_icmp .ne 10, 3) := by decide +kernel
theorem dX3_tap_61 : decode cX3_tap 61 = .ok (.iconst 2, 1) := by decide +kernel
theorem dX3_tap_62 : decode cX3_tap 62 = .ok (.invokestatic 75, 3) := by decide +kernel
theorem dX3_tap_65 : decode cX3_tap 65 = .ok (.goto 4, 3) := by decide +kernel
theorem dX3_tap_68 : decode cX3_tap 68 = .ok (.iload_n 3, 1) := by decide +kernel
theorem dX3_tap_69 : decode cX3_tap 69 = .ok (.ireturn, 1) := by decide +kernel
set_option maxRecDepth 20000 in
theorem ggX3_lay_X3_isOf : GoodIn wsX3_lay wsX3_isOf := goodIn_r _ [8, 1, 9, 10, 7, 11, 26, 27, 28, 29, 30, 31, 32, 33, 34, 35, 36, 37, 38] (by decide +kernel) (by decide +kernel)
set_option maxRecDepth 20000 in
theorem gX3_lay_X3_isOf : GoodIn wsX3_lay (wsV RX3 68 RX3 yX3_isOf wsX3_isOf) := goodIn_app (goodIn_of _ (by decide +kernel)) ggX3_lay_X3_isOf
set_option maxRecDepth 20000 in
theorem ggX3_lay_X3_with : GoodIn wsX3_lay wsX3_with := goodIn_r _ [14] (by decide +kernel) (by decide +kernel)
set_option maxRecDepth 20000 in
theorem gX3_lay_X3_with : GoodIn wsX3_lay (va_wsS RX3 75 yX3_with wsX3_with) := goodIn_app (goodIn_of _ (by decide +kernel)) ggX3_lay_X3_with
set_option maxRecDepth 20000 in
theorem ggX3_lay_X3_hasPlaces : GoodIn wsX3_lay wsX3_hasPlaces := goodIn_r _ [18, 1, 26, 27, 28, 29, 30, 31, 32, 33, 34, 35, 36, 37, 38] (by decide +kernel) (by decide +kernel)
set_option maxRecDepth 20000 in
theorem gX3_lay_X3_hasPlaces : GoodIn wsX3_lay (wsV RX3 79 RX3 yX3_hasPlaces wsX3_hasPlaces) := goodIn_app (goodIn_of _ (by decide +kernel)) ggX3_lay_X3_hasPlaces
set_option maxRecDepth 20000 in
theorem ggX3_lay_X3_isIn : GoodIn wsX3_lay wsX3_isIn := goodIn_r _ [21] (by decide +kernel) (by decide +kernel)
set_option maxRecDepth 20000 in
theorem gX3_lay_X3_isIn : GoodIn wsX3_lay (va_wsS RX3 45 yX3_isIn wsX3_isIn) := goodIn_app (goodIn_of _ (by decide +kernel)) ggX3_lay_X3_isIn
set_option maxRecDepth 20000 in
theorem ggX3_lay_X3_takes : GoodIn wsX3_lay wsX3_takes := goodIn_r _ [25, 1, 4, 5, 6, 7, 8, 9, 10, 11, 26, 27, 28, 29, 30, 31, 32, 33, 34, 35, 36, 37, 38] (by decide +kernel) (by decide +kernel)
set_option maxRecDepth 20000 in
theorem gX3_lay_X3_takes : GoodIn wsX3_lay (wsV RX3 82 RX3 yX3_takes wsX3_takes) := goodIn_app (goodIn_of _ (by decide +kernel)) ggX3_lay_X3_takes
theorem dX3_lay_0 : decode cX3_lay 0 = .ok (.iload_n 1, 1) := by decide +kernel
theorem dX3_lay_1 : decode cX3_lay 1 = .ok (.iconst (-1), 1) := by decide +kernel
theorem dX3_lay_2 : decode cX3_lay 2 = .ok (.if_icmp .ne 7, 3) := by decide +kernel
theorem dX3_lay_5 : decode cX3_lay 5 = .ok (.iconst 4, 1) := by decide +kernel
theorem dX3_lay_6 : decode cX3_lay 6 = .ok (.goto 49, 3) := by decide +kernel
theorem dX3_lay_9 : decode cX3_lay 9 = .ok (.aload_n 0, 1) := by decide +kernel
theorem dX3_lay_10 : decode cX3_lay 10 = .ok (.getfield 7, 3) := by decide +kernel
theorem dX3_lay_13 : decode cX3_lay 13 = .ok (.iload_n 1, 1) := by decide +kernel
theorem dX3_lay_14 : decode cX3_lay 14 = .ok (.iaload, 1) := by decide +kernel
theorem dX3_lay_15 : decode cX3_lay 15 = .ok (.iconst 3, 1) := by decide +kernel
theorem dX3_lay_16 : decode cX3_lay 16 = .ok (.if_icmp .ne 7, 3) := by decide +kernel
theorem dX3_lay_19 : decode cX3_lay 19 = .ok (.iconst 1, 1) := by decide +kernel
theorem dX3_lay_20 : decode cX3_lay 20 = .ok (.goto 35, 3) := by decide +kernel
theorem dX3_lay_23 : decode cX3_lay 23 = .ok (.aload_n 0, 1) := by decide +kernel
theorem dX3_lay_24 : decode cX3_lay 24 = .ok (.iload_n 1, 1) := by decide +kernel
theorem dX3_lay_25 : decode cX3_lay 25 = .ok (.bipush 9, 2) := by decide +kernel
theorem dX3_lay_27 : decode cX3_lay 27 = .ok (.invokevirtual 68, 3) := by decide +kernel
theorem dX3_lay_30 : decode cX3_lay 30 = .ok (.ifCond .eq 8, 3) := by decide +kernel
theorem dX3_lay_33 : decode cX3_lay 33 = .ok (.bipush 6, 2) := by decide +kernel
theorem dX3_lay_35 : decode cX3_lay 35 = .ok (.goto 20, 3) := by decide +kernel
theorem dX3_lay_38 : decode cX3_lay 38 = .ok (.aload_n 0, 1) := by decide +kernel
theorem dX3_lay_39 : decode cX3_lay 39 = .ok (.getfield 7, 3) := by decide +kernel
theorem dX3_lay_42 : decode cX3_lay 42 = .ok (.iload_n 1, 1) := by decide +kernel
theorem dX3_lay_43 : decode cX3_lay 43 = .ok (.iaload, 1) := by decide +kernel
theorem dX3_lay_44 : decode cX3_lay 44 = .ok (.bipush 8, 2) := by decide +kernel
theorem dX3_lay_46 : decode cX3_lay 46 = .ok (.if_icmp .ne 8, 3) := by decide +kernel
theorem dX3_lay_49 : decode cX3_lay 49 = .ok (.bipush 11, 2) := by decide +kernel
theorem dX3_lay_51 : decode cX3_lay 51 = .ok (.goto 4, 3) := by decide +kernel
theorem dX3_lay_54 : decode cX3_lay 54 = .ok (.iconst 4, 1) := by decide +kernel
theorem dX3_lay_55 : decode cX3_lay 55 = .ok (.istore 4, 2) := by decide +kernel
theorem dX3_lay_57 : decode cX3_lay 57 = .ok (.iload_n 2, 1) := by decide +kernel
theorem dX3_lay_58 : decode cX3_lay 58 = .ok (.iconst (-1), 1) := by decide +kernel
theorem dX3_lay_59 : decode cX3_lay 59 = .ok (.if_icmp .eq 18, 3) := by decide +kernel
theorem dX3_lay_62 : decode cX3_lay 62 = .ok (.aload_n 0, 1) := by decide +kernel
theorem dX3_lay_63 : decode cX3_lay 63 = .ok (.iload_n 2, 1) := by decide +kernel
theorem dX3_lay_64 : decode cX3_lay 64 = .ok (.iload 4, 2) := by decide +kernel
theorem dX3_lay_66 : decode cX3_lay 66 = .ok (.invokevirtual 68, 3) := by decide +kernel
theorem dX3_lay_69 : decode cX3_lay 69 = .ok (.ifCond .ne 8, 3) := by decide +kernel
theorem dX3_lay_72 : decode cX3_lay 72 = .ok (.iconst 1, 1) := by decide +kernel
theorem dX3_lay_73 : decode cX3_lay 73 = .ok (.invokestatic 75, 3) := by decide +kernel
theorem dX3_lay_76 : decode cX3_lay 76 = .ok (.ireturn, 1) := by decide +kernel
theorem dX3_lay_77 : decode cX3_lay 77 = .ok (.iload_n 1, 1) := by decide +kernel
theorem dX3_lay_78 : decode cX3_lay 78 = .ok (.iconst (-1), 1) := by decide +kernel
theorem dX3_lay_79 : decode cX3_lay 79 = .ok (.if_icmp .ne 8, 3) := by decide +kernel
theorem dX3_lay_82 : decode cX3_lay 82 = .ok (.iconst 2, 1) := by decide +kernel
theorem dX3_lay_83 : decode cX3_lay 83 = .ok (.invokestatic 75, 3) := by decide +kernel
theorem dX3_lay_86 : decode cX3_lay 86 = .ok (.ireturn, 1) := by decide +kernel
theorem dX3_lay_87 : decode cX3_lay 87 = .ok (.aload_n 0, 1) := by decide +kernel
theorem dX3_lay_88 : decode cX3_lay 88 = .ok (.iload_n 1, 1) := by decide +kernel
theorem dX3_lay_89 : decode cX3_lay 89 = .ok (.invokevirtual 79, 3) := by decide +kernel
theorem dX3_lay_92 : decode cX3_lay 92 = .ok (.ifCond .ne 8, 3) := by decide +kernel
theorem dX3_lay_95 : decode cX3_lay 95 = .ok (.iconst 1, 1) := by decide +kernel
theorem dX3_lay_96 : decode cX3_lay 96 = .ok (.invokestatic 75, 3) := by decide +kernel
theorem dX3_lay_99 : decode cX3_lay 99 = .ok (.ireturn, 1) := by decide +kernel
theorem dX3_lay_100 : decode cX3_lay 100 = .ok (.iload_n 3, 1) := by decide +kernel
theorem dX3_lay_101 : decode cX3_lay 101 = .ok (.iconst 0, 1) := by decide +kernel
theorem dX3_lay_102 : decode cX3_lay 102 = .ok (.aload_n 0, 1) := by decide +kernel
theorem dX3_lay_103 : decode cX3_lay 103 = .ok (.getfield 13, 3) := by decide +kernel
theorem dX3_lay_106 : decode cX3_lay 106 = .ok (.iload_n 1, 1) := by decide +kernel
theorem dX3_lay_107 : decode cX3_lay 107 = .ok (.iaload, 1) := by decide +kernel
theorem dX3_lay_108 : decode cX3_lay 108 = .ok (.iconst 1, 1) := by decide +kernel
theorem dX3_lay_109 : decode cX3_lay 109 = .ok (.isub, 1) := by decide +kernel
theorem dX3_lay_110 : decode cX3_lay 110 = .ok (.invokestatic 45, 3) := by decide +kernel
theorem dX3_lay_113 : decode cX3_lay 113 = .ok (.ifCond .ne 8, 3) := by decide +kernel
theorem dX3_lay_116 : decode cX3_lay 116 = .ok (.iconst 3, 1) := by decide +kernel
theorem dX3_lay_117 : decode cX3_lay 117 = .ok (.invokestatic 75, 3) := by decide +kernel
theorem dX3_lay_120 : decode cX3_lay 120 = .ok (.ireturn, 1) := by decide +kernel
theorem dX3_lay_121 : decode cX3_lay 121 = .ok (.iload_n 2, 1) := by decide +kernel
theorem dX3_lay_122 : decode cX3_lay 122 = .ok (.iconst (-1), 1) := by decide +kernel
theorem dX3_lay_123 : decode cX3_lay 123 = .ok (.if_icmp .eq 17, 3) := by decide +kernel
theorem dX3_lay_126 : decode cX3_lay 126 = .ok (.aload_n 0, 1) := by decide +kernel
theorem dX3_lay_127 : decode cX3_lay 127 = .ok (.iload_n 1, 1) := by decide +kernel
theorem dX3_lay_128 : decode cX3_lay 128 = .ok (.iload_n 2, 1) := by decide +kernel
theorem dX3_lay_129 : decode cX3_lay 129 = .ok (.invokevirtual 82, 3) := by decide +kernel
theorem dX3_lay_132 : decode cX3_lay 132 = .ok (.ifCond .ne 8, 3) := by decide +kernel
theorem dX3_lay_135 : decode cX3_lay 135 = .ok (.iconst 4, 1) := by decide +kernel
theorem dX3_lay_136 : decode cX3_lay 136 = .ok (.invokestatic 75, 3) := by decide +kernel
theorem dX3_lay_139 : decode cX3_lay 139 = .ok (.ireturn, 1) := by decide +kernel
theorem dX3_lay_140 : decode cX3_lay 140 = .ok (.aload_n 0, 1) := by decide +kernel
theorem dX3_lay_141 : decode cX3_lay 141 = .ok (.getfield 23, 3) := by decide +kernel
theorem dX3_lay_144 : decode cX3_lay 144 = .ok (.bipush 8, 2) := by decide +kernel
theorem dX3_lay_146 : decode cX3_lay 146 = .ok (.iload_n 1, 1) := by decide +kernel
theorem dX3_lay_147 : decode cX3_lay 147 = .ok (.imul, 1) := by decide +kernel
theorem dX3_lay_148 : decode cX3_lay 148 = .ok (.iload_n 3, 1) := by decide +kernel
theorem dX3_lay_149 : decode cX3_lay 149 = .ok (.iadd, 1) := by decide +kernel
theorem dX3_lay_150 : decode cX3_lay 150 = .ok (.iload_n 2, 1) := by decide +kernel
theorem dX3_lay_151 : decode cX3_lay 151 = .ok (.iastore, 1) := by decide +kernel
theorem dX3_lay_152 : decode cX3_lay 152 = .ok (.iload_n 1, 1) := by decide +kernel
theorem dX3_lay_153 : decode cX3_lay 153 = .ok (.ireturn, 1) := by decide +kernel
set_option maxRecDepth 20000 in
theorem ggX3_levelsOf_X3_make : GoodIn wsX3_levelsOf wsX3_make := goodIn_r _ [9, 10, 11, 1, 4, 3, 2, 12, 13, 14, 15, 16, 17, 18, 19, 20, 21, 22, 23, 24] (by decide +kernel) (by decide +kernel)
set_option maxRecDepth 20000 in
theorem gX3_levelsOf_X3_make : GoodIn wsX3_levelsOf (wsV RX3 53 RX3 yX3_make wsX3_make) := goodIn_app (goodIn_of _ (by decide +kernel)) ggX3_levelsOf_X3_make
theorem dX3_levelsOf_0 : decode cX3_levelsOf 0 = .ok (.aload_n 0, 1) := by decide +kernel
theorem dX3_levelsOf_1 : decode cX3_levelsOf 1 = .ok (.iconst 1, 1) := by decide +kernel
theorem dX3_levelsOf_2 : decode cX3_levelsOf 2 = .ok (.aload_n 0, 1) := by decide +kernel
theorem dX3_levelsOf_3 : decode cX3_levelsOf 3 = .ok (.getfield 13, 3) := by decide +kernel
theorem dX3_levelsOf_6 : decode cX3_levelsOf 6 = .ok (.iload_n 1, 1) := by decide +kernel
theorem dX3_levelsOf_7 : decode cX3_levelsOf 7 = .ok (.iaload, 1) := by decide +kernel
theorem dX3_levelsOf_8 : decode cX3_levelsOf 8 = .ok (.invokevirtual 53, 3) := by decide +kernel
theorem dX3_levelsOf_11 : decode cX3_levelsOf 11 = .ok (.istore_n 3, 1) := by decide +kernel
theorem dX3_levelsOf_12 : decode cX3_levelsOf 12 = .ok (.iconst 0, 1) := by decide +kernel
theorem dX3_levelsOf_13 : decode cX3_levelsOf 13 = .ok (.istore 4, 2) := by decide +kernel
theorem dX3_levelsOf_15 : decode cX3_levelsOf 15 = .ok (.iload 4, 2) := by decide +kernel
theorem dX3_levelsOf_17 : decode cX3_levelsOf 17 = .ok (.aload_n 0, 1) := by decide +kernel
theorem dX3_levelsOf_18 : decode cX3_levelsOf 18 = .ok (.getfield 13, 3) := by decide +kernel
theorem dX3_levelsOf_21 : decode cX3_levelsOf 21 = .ok (.iload_n 1, 1) := by decide +kernel
theorem dX3_levelsOf_22 : decode cX3_levelsOf 22 = .ok (.iaload, 1) := by decide +kernel
theorem dX3_levelsOf_23 : decode cX3_levelsOf 23 = .ok (.if_icmp .ge 55, 3) := by decide +kernel
theorem dX3_levelsOf_26 : decode cX3_levelsOf 26 = .ok (.aload_n 0, 1) := by decide +kernel
theorem dX3_levelsOf_27 : decode cX3_levelsOf 27 = .ok (.getfield 23, 3) := by decide +kernel
theorem dX3_levelsOf_30 : decode cX3_levelsOf 30 = .ok (.bipush 8, 2) := by decide +kernel
theorem dX3_levelsOf_32 : decode cX3_levelsOf 32 = .ok (.iload_n 1, 1) := by decide +kernel
theorem dX3_levelsOf_33 : decode cX3_levelsOf 33 = .ok (.imul, 1) := by decide +kernel
theorem dX3_levelsOf_34 : decode cX3_levelsOf 34 = .ok (.iload 4, 2) := by decide +kernel
theorem dX3_levelsOf_36 : decode cX3_levelsOf 36 = .ok (.iadd, 1) := by decide +kernel
theorem dX3_levelsOf_37 : decode cX3_levelsOf 37 = .ok (.iaload, 1) := by decide +kernel
theorem dX3_levelsOf_38 : decode cX3_levelsOf 38 = .ok (.istore 5, 2) := by decide +kernel
theorem dX3_levelsOf_40 : decode cX3_levelsOf 40 = .ok (.aload_n 0, 1) := by decide +kernel
theorem dX3_levelsOf_41 : decode cX3_levelsOf 41 = .ok (.getfield 19, 3) := by decide +kernel
theorem dX3_levelsOf_44 : decode cX3_levelsOf 44 = .ok (.bipush 8, 2) := by decide +kernel
theorem dX3_levelsOf_46 : decode cX3_levelsOf 46 = .ok (.iload_n 3, 1) := by decide +kernel
theorem dX3_levelsOf_47 : decode cX3_levelsOf 47 = .ok (.imul, 1) := by decide +kernel
theorem dX3_levelsOf_48 : decode cX3_levelsOf 48 = .ok (.iload 4, 2) := by decide +kernel
theorem dX3_levelsOf_50 : decode cX3_levelsOf 50 = .ok (.iadd, 1) := by decide +kernel
theorem dX3_levelsOf_51 : decode cX3_levelsOf 51 = .ok (.iload 5, 2) := by decide +kernel
theorem dX3_levelsOf_53 : decode cX3_levelsOf 53 = .ok (.iconst (-1), 1) := by decide +kernel
theorem dX3_levelsOf_54 : decode cX3_levelsOf 54 = .ok (.if_icmp .ne 7, 3) := by decide +kernel
theorem dX3_levelsOf_57 : decode cX3_levelsOf 57 = .ok (.lconst 0, 1) := by decide +kernel
theorem dX3_levelsOf_58 : decode cX3_levelsOf 58 = .ok (.goto 13, 3) := by decide +kernel
theorem dX3_levelsOf_61 : decode cX3_levelsOf 61 = .ok (.iload_n 2, 1) := by decide +kernel
theorem dX3_levelsOf_62 : decode cX3_levelsOf 62 = .ok (.aload_n 0, 1) := by decide +kernel
theorem dX3_levelsOf_63 : decode cX3_levelsOf 63 = .ok (.getfield 16, 3) := by decide +kernel
theorem dX3_levelsOf_66 : decode cX3_levelsOf 66 = .ok (.iload 5, 2) := by decide +kernel
theorem dX3_levelsOf_68 : decode cX3_levelsOf 68 = .ok (.iaload, 1) := by decide +kernel
theorem dX3_levelsOf_69 : decode cX3_levelsOf 69 = .ok (.imul, 1) := by decide +kernel
theorem dX3_levelsOf_70 : decode cX3_levelsOf 70 = .ok (.i2l, 1) := by decide +kernel
theorem dX3_levelsOf_71 : decode cX3_levelsOf 71 = .ok (.lastore, 1) := by decide +kernel
theorem dX3_levelsOf_72 : decode cX3_levelsOf 72 = .ok (.iinc 4 1, 3) := by decide +kernel
theorem dX3_levelsOf_75 : decode cX3_levelsOf 75 = .ok (.goto (-60), 3) := by decide +kernel
theorem dX3_levelsOf_78 : decode cX3_levelsOf 78 = .ok (.iload_n 3, 1) := by decide +kernel
theorem dX3_levelsOf_79 : decode cX3_levelsOf 79 = .ok (.ireturn, 1) := by decide +kernel
set_option maxRecDepth 20000 in
theorem ggX3_drive_X3_with : GoodIn wsX3_drive wsX3_with := goodIn_r _ [10] (by decide +kernel) (by decide +kernel)
set_option maxRecDepth 20000 in
theorem gX3_drive_X3_with : GoodIn wsX3_drive (va_wsS RX3 75 yX3_with wsX3_with) := goodIn_app (goodIn_of _ (by decide +kernel)) ggX3_drive_X3_with
set_option maxRecDepth 20000 in
theorem ggX3_drive_X3_make : GoodIn wsX3_drive wsX3_make := goodIn_r _ [14, 2, 1, 3, 4, 5, 6, 15, 16, 17, 18, 19, 20, 21, 22, 23, 24, 25, 26, 27] (by decide +kernel) (by decide +kernel)
set_option maxRecDepth 20000 in
theorem gX3_drive_X3_make : GoodIn wsX3_drive (wsV RX3 53 RX3 yX3_make wsX3_make) := goodIn_app (goodIn_of _ (by decide +kernel)) ggX3_drive_X3_make
theorem dX3_drive_0 : decode cX3_drive 0 = .ok (.aload_n 0, 1) := by decide +kernel
theorem dX3_drive_1 : decode cX3_drive 1 = .ok (.getfield 7, 3) := by decide +kernel
theorem dX3_drive_4 : decode cX3_drive 4 = .ok (.iload_n 1, 1) := by decide +kernel
theorem dX3_drive_5 : decode cX3_drive 5 = .ok (.iaload, 1) := by decide +kernel
theorem dX3_drive_6 : decode cX3_drive 6 = .ok (.iconst 1, 1) := by decide +kernel
theorem dX3_drive_7 : decode cX3_drive 7 = .ok (.if_icmp .eq 8, 3) := by decide +kernel
theorem dX3_drive_10 : decode cX3_drive 10 = .ok (.iconst 1, 1) := by decide +kernel
theorem dX3_drive_11 : decode cX3_drive 11 = .ok (.invokestatic 75, 3) := by decide +kernel
theorem dX3_drive_14 : decode cX3_drive 14 = .ok (.ireturn, 1) := by decide +kernel
theorem dX3_drive_15 : decode cX3_drive 15 = .ok (.aload_n 0, 1) := by decide +kernel
theorem dX3_drive_16 : decode cX3_drive 16 = .ok (.getfield 42, 3) := by decide +kernel
theorem dX3_drive_19 : decode cX3_drive 19 = .ok (.istore_n 3, 1) := by decide +kernel
theorem dX3_drive_20 : decode cX3_drive 20 = .ok (.iconst 0, 1) := by decide +kernel
theorem dX3_drive_21 : decode cX3_drive 21 = .ok (.istore 4, 2) := by decide +kernel
theorem dX3_drive_23 : decode cX3_drive 23 = .ok (.iload 4, 2) := by decide +kernel
theorem dX3_drive_25 : decode cX3_drive 25 = .ok (.aload_n 0, 1) := by decide +kernel
theorem dX3_drive_26 : decode cX3_drive 26 = .ok (.getfield 13, 3) := by decide +kernel
theorem dX3_drive_29 : decode cX3_drive 29 = .ok (.iload_n 1, 1) := by decide +kernel
theorem dX3_drive_30 : decode cX3_drive 30 = .ok (.iaload, 1) := by decide +kernel
theorem dX3_drive_31 : decode cX3_drive 31 = .ok (.if_icmp .ge 45, 3) := by decide +kernel
theorem dX3_drive_34 : decode cX3_drive 34 = .ok (.aload_n 0, 1) := by decide +kernel
theorem dX3_drive_35 : decode cX3_drive 35 = .ok (.iload_n 2, 1) := by decide +kernel
theorem dX3_drive_36 : decode cX3_drive 36 = .ok (.ifCond .ne 7, 3) := by decide +kernel
theorem dX3_drive_39 : decode cX3_drive 39 = .ok (.iconst 4, 1) := by decide +kernel
theorem dX3_drive_40 : decode cX3_drive 40 = .ok (.goto 4, 3) := by decide +kernel
theorem dX3_drive_43 : decode cX3_drive 43 = .ok (.iconst 5, 1) := by decide +kernel
theorem dX3_drive_44 : decode cX3_drive 44 = .ok (.iconst 0, 1) := by decide +kernel
theorem dX3_drive_45 : decode cX3_drive 45 = .ok (.invokevirtual 53, 3) := by decide +kernel
theorem dX3_drive_48 : decode cX3_drive 48 = .ok (.istore 5, 2) := by decide +kernel
theorem dX3_drive_50 : decode cX3_drive 50 = .ok (.aload_n 0, 1) := by decide +kernel
theorem dX3_drive_51 : decode cX3_drive 51 = .ok (.getfield 16, 3) := by decide +kernel
theorem dX3_drive_54 : decode cX3_drive 54 = .ok (.iload 5, 2) := by decide +kernel
theorem dX3_drive_56 : decode cX3_drive 56 = .ok (.aload_n 0, 1) := by decide +kernel
theorem dX3_drive_57 : decode cX3_drive 57 = .ok (.getfield 19, 3) := by decide +kernel
theorem dX3_drive_60 : decode cX3_drive 60 = .ok (.bipush 8, 2) := by decide +kernel
theorem dX3_drive_62 : decode cX3_drive 62 = .ok (.iload_n 1, 1) := by decide +kernel
theorem dX3_drive_63 : decode cX3_drive 63 = .ok (.imul, 1) := by decide +kernel
theorem dX3_drive_64 : decode cX3_drive 64 = .ok (.iload 4, 2) := by decide +kernel
theorem dX3_drive_66 : decode cX3_drive 66 = .ok (.iadd, 1) := by decide +kernel
theorem dX3_drive_67 : decode cX3_drive 67 = .ok (.laload, 1) := by decide +kernel
theorem dX3_drive_68 : decode cX3_drive 68 = .ok (.l2i, 1) := by decide +kernel
theorem dX3_drive_69 : decode cX3_drive 69 = .ok (.iastore, 1) := by decide +kernel
theorem dX3_drive_70 : decode cX3_drive 70 = .ok (.iinc 4 1, 3) := by decide +kernel
theorem dX3_drive_73 : decode cX3_drive 73 = .ok (.goto (-50), 3) := by decide +kernel
theorem dX3_drive_76 : decode cX3_drive 76 = .ok (.aload_n 0, 1) := by decide +kernel
theorem dX3_drive_77 : decode cX3_drive 77 = .ok (.iload_n 2, 1) := by decide +kernel
theorem dX3_drive_78 : decode cX3_drive 78 = .ok (.ifCond .ne 8, 3) := by decide +kernel
theorem dX3_drive_81 : decode cX3_drive 81 = .ok (.bipush 6, 2) := by decide +kernel
theorem dX3_drive_83 : decode cX3_drive 83 = .ok (.goto 5, 3) := by decide +kernel
theorem dX3_drive_86 : decode cX3_drive 86 = .ok (.bipush 7, 2) := by decide +kernel
theorem dX3_drive_88 : decode cX3_drive 88 = .ok (.aload_n 0, 1) := by decide +kernel
theorem dX3_drive_89 : decode cX3_drive 89 = .ok (.getfield 13, 3) := by decide +kernel
theorem dX3_drive_92 : decode cX3_drive 92 = .ok (.iload_n 1, 1) := by decide +kernel
theorem dX3_drive_93 : decode cX3_drive 93 = .ok (.iaload, 1) := by decide +kernel
theorem dX3_drive_94 : decode cX3_drive 94 = .ok (.invokevirtual 53, 3) := by decide +kernel
theorem dX3_drive_97 : decode cX3_drive 97 = .ok (.istore 4, 2) := by decide +kernel
theorem dX3_drive_99 : decode cX3_drive 99 = .ok (.iconst 0, 1) := by decide +kernel
theorem dX3_drive_100 : decode cX3_drive 100 = .ok (.istore 5, 2) := by decide +kernel
theorem dX3_drive_102 : decode cX3_drive 102 = .ok (.iload 5, 2) := by decide +kernel
theorem dX3_drive_104 : decode cX3_drive 104 = .ok (.aload_n 0, 1) := by decide +kernel
theorem dX3_drive_105 : decode cX3_drive 105 = .ok (.getfield 13, 3) := by decide +kernel
theorem dX3_drive_108 : decode cX3_drive 108 = .ok (.iload_n 1, 1) := by decide +kernel
theorem dX3_drive_109 : decode cX3_drive 109 = .ok (.iaload, 1) := by decide +kernel
theorem dX3_drive_110 : decode cX3_drive 110 = .ok (.if_icmp .ge 26, 3) := by decide +kernel
theorem dX3_drive_113 : decode cX3_drive 113 = .ok (.aload_n 0, 1) := by decide +kernel
theorem dX3_drive_114 : decode cX3_drive 114 = .ok (.getfield 23, 3) := by decide +kernel
theorem dX3_drive_117 : decode cX3_drive 117 = .ok (.bipush 8, 2) := by decide +kernel
theorem dX3_drive_119 : decode cX3_drive 119 = .ok (.iload 4, 2) := by decide +kernel
theorem dX3_drive_121 : decode cX3_drive 121 = .ok (.imul, 1) := by decide +kernel
theorem dX3_drive_122 : decode cX3_drive 122 = .ok (.iload 5, 2) := by decide +kernel
theorem dX3_drive_124 : decode cX3_drive 124 = .ok (.iadd, 1) := by decide +kernel
theorem dX3_drive_125 : decode cX3_drive 125 = .ok (.iload_n 3, 1) := by decide +kernel
theorem dX3_drive_126 : decode cX3_drive 126 = .ok (.iload 5, 2) := by decide +kernel
theorem dX3_drive_128 : decode cX3_drive 128 = .ok (.iadd, 1) := by decide +kernel
theorem dX3_drive_129 : decode cX3_drive 129 = .ok (.iastore, 1) := by decide +kernel
theorem dX3_drive_130 : decode cX3_drive 130 = .ok (.iinc 5 1, 3) := by decide +kernel
theorem dX3_drive_133 : decode cX3_drive 133 = .ok (.goto (-31), 3) := by decide +kernel
theorem dX3_drive_136 : decode cX3_drive 136 = .ok (.iload 4, 2) := by decide +kernel
theorem dX3_drive_138 : decode cX3_drive 138 = .ok (.ireturn, 1) := by decide +kernel
set_option maxRecDepth 20000 in
theorem ggX3_pair_X3_isOf : GoodIn wsX3_pair wsX3_isOf := goodIn_r _ [6, 7, 8, 9, 5, 10, 22, 23, 24, 25, 26, 27, 28, 29, 30, 31, 32, 33, 34] (by decide +kernel) (by decide +kernel)
set_option maxRecDepth 20000 in
theorem gX3_pair_X3_isOf : GoodIn wsX3_pair (wsV RX3 68 RX3 yX3_isOf wsX3_isOf) := goodIn_app (goodIn_of _ (by decide +kernel)) ggX3_pair_X3_isOf
set_option maxRecDepth 20000 in
theorem ggX3_pair_X3_with : GoodIn wsX3_pair wsX3_with := goodIn_r _ [13] (by decide +kernel) (by decide +kernel)
set_option maxRecDepth 20000 in
theorem gX3_pair_X3_with : GoodIn wsX3_pair (va_wsS RX3 75 yX3_with wsX3_with) := goodIn_app (goodIn_of _ (by decide +kernel)) ggX3_pair_X3_with
set_option maxRecDepth 20000 in
theorem ggX3_pair_X3_make : GoodIn wsX3_pair wsX3_make := goodIn_r _ [17, 18, 7, 19, 20, 21, 1, 22, 23, 24, 25, 26, 27, 28, 29, 30, 31, 32, 33, 34] (by decide +kernel) (by decide +kernel)
set_option maxRecDepth 20000 in
theorem gX3_pair_X3_make : GoodIn wsX3_pair (wsV RX3 53 RX3 yX3_make wsX3_make) := goodIn_app (goodIn_of _ (by decide +kernel)) ggX3_pair_X3_make
theorem dX3_pair_0 : decode cX3_pair 0 = .ok (.iload_n 3, 1) := by decide +kernel
theorem dX3_pair_1 : decode cX3_pair 1 = .ok (.ifCond .ne 8, 3) := by decide +kernel
theorem dX3_pair_4 : decode cX3_pair 4 = .ok (.bipush 6, 2) := by decide +kernel
theorem dX3_pair_6 : decode cX3_pair 6 = .ok (.goto 5, 3) := by decide +kernel
theorem dX3_pair_9 : decode cX3_pair 9 = .ok (.bipush 7, 2) := by decide +kernel
theorem dX3_pair_11 : decode cX3_pair 11 = .ok (.istore 4, 2) := by decide +kernel
theorem dX3_pair_13 : decode cX3_pair 13 = .ok (.iload_n 1, 1) := by decide +kernel
theorem dX3_pair_14 : decode cX3_pair 14 = .ok (.iconst (-1), 1) := by decide +kernel
theorem dX3_pair_15 : decode cX3_pair 15 = .ok (.if_icmp .eq 13, 3) := by decide +kernel
theorem dX3_pair_18 : decode cX3_pair 18 = .ok (.aload_n 0, 1) := by decide +kernel
theorem dX3_pair_19 : decode cX3_pair 19 = .ok (.iload_n 1, 1) := by decide +kernel
theorem dX3_pair_20 : decode cX3_pair 20 = .ok (.iload 4, 2) := by decide +kernel
theorem dX3_pair_22 : decode cX3_pair 22 = .ok (.invokevirtual 68, 3) := by decide +kernel
theorem dX3_pair_25 : decode cX3_pair 25 = .ok (.ifCond .eq 18, 3) := by decide +kernel
theorem dX3_pair_28 : decode cX3_pair 28 = .ok (.iload_n 2, 1) := by decide +kernel
theorem dX3_pair_29 : decode cX3_pair 29 = .ok (.iconst (-1), 1) := by decide +kernel
theorem dX3_pair_30 : decode cX3_pair 30 = .ok (.if_icmp .eq 18, 3) := by decide +kernel
theorem dX3_pair_33 : decode cX3_pair 33 = .ok (.aload_n 0, 1) := by decide +kernel
theorem dX3_pair_34 : decode cX3_pair 34 = .ok (.iload_n 2, 1) := by decide +kernel
theorem dX3_pair_35 : decode cX3_pair 35 = .ok (.iload 4, 2) := by decide +kernel
theorem dX3_pair_37 : decode cX3_pair 37 = .ok (.invokevirtual 68, 3) := by decide +kernel
theorem dX3_pair_40 : decode cX3_pair 40 = .ok (.ifCond .ne 8, 3) := by decide +kernel
theorem dX3_pair_43 : decode cX3_pair 43 = .ok (.iconst 1, 1) := by decide +kernel
theorem dX3_pair_44 : decode cX3_pair 44 = .ok (.invokestatic 75, 3) := by decide +kernel
theorem dX3_pair_47 : decode cX3_pair 47 = .ok (.ireturn, 1) := by decide +kernel
theorem dX3_pair_48 : decode cX3_pair 48 = .ok (.iload_n 1, 1) := by decide +kernel
theorem dX3_pair_49 : decode cX3_pair 49 = .ok (.iconst (-1), 1) := by decide +kernel
theorem dX3_pair_50 : decode cX3_pair 50 = .ok (.if_icmp .eq 8, 3) := by decide +kernel
theorem dX3_pair_53 : decode cX3_pair 53 = .ok (.iload_n 2, 1) := by decide +kernel
theorem dX3_pair_54 : decode cX3_pair 54 = .ok (.iconst (-1), 1) := by decide +kernel
theorem dX3_pair_55 : decode cX3_pair 55 = .ok (.if_icmp .ne 8, 3) := by decide +kernel
theorem dX3_pair_58 : decode cX3_pair 58 = .ok (.iconst 2, 1) := by decide +kernel
theorem dX3_pair_59 : decode cX3_pair 59 = .ok (.invokestatic 75, 3) := by decide +kernel
theorem dX3_pair_62 : decode cX3_pair 62 = .ok (.ireturn, 1) := by decide +kernel
theorem dX3_pair_63 : decode cX3_pair 63 = .ok (.aload_n 0, 1) := by decide +kernel
theorem dX3_pair_64 : decode cX3_pair 64 = .ok (.iload_n 3, 1) := by decide +kernel
theorem dX3_pair_65 : decode cX3_pair 65 = .ok (.ifCond .ne 8, 3) := by decide +kernel
theorem dX3_pair_68 : decode cX3_pair 68 = .ok (.bipush 9, 2) := by decide +kernel
theorem dX3_pair_70 : decode cX3_pair 70 = .ok (.goto 5, 3) := by decide +kernel
theorem dX3_pair_73 : decode cX3_pair 73 = .ok (.bipush 10, 2) := by decide +kernel
theorem dX3_pair_75 : decode cX3_pair 75 = .ok (.iconst 2, 1) := by decide +kernel
theorem dX3_pair_76 : decode cX3_pair 76 = .ok (.invokevirtual 53, 3) := by decide +kernel
theorem dX3_pair_79 : decode cX3_pair 79 = .ok (.istore 5, 2) := by decide +kernel
theorem dX3_pair_81 : decode cX3_pair 81 = .ok (.aload_n 0, 1) := by decide +kernel
theorem dX3_pair_82 : decode cX3_pair 82 = .ok (.getfield 23, 3) := by decide +kernel
theorem dX3_pair_85 : decode cX3_pair 85 = .ok (.bipush 8, 2) := by decide +kernel
theorem dX3_pair_87 : decode cX3_pair 87 = .ok (.iload 5, 2) := by decide +kernel
theorem dX3_pair_89 : decode cX3_pair 89 = .ok (.imul, 1) := by decide +kernel
theorem dX3_pair_90 : decode cX3_pair 90 = .ok (.iload_n 1, 1) := by decide +kernel
theorem dX3_pair_91 : decode cX3_pair 91 = .ok (.iastore, 1) := by decide +kernel
theorem dX3_pair_92 : decode cX3_pair 92 = .ok (.aload_n 0, 1) := by decide +kernel
theorem dX3_pair_93 : decode cX3_pair 93 = .ok (.getfield 23, 3) := by decide +kernel
theorem dX3_pair_96 : decode cX3_pair 96 = .ok (.bipush 8, 2) := by decide +kernel
theorem dX3_pair_98 : decode cX3_pair 98 = .ok (.iload 5, 2) := by decide +kernel
theorem dX3_pair_100 : decode cX3_pair 100 = .ok (.imul, 1) := by decide +kernel
theorem dX3_pair_101 : decode cX3_pair 101 = .ok (.iconst 1, 1) := by decide +kernel
theorem dX3_pair_102 : decode cX3_pair 102 = .ok (.iadd, 1) := by decide +kernel
theorem dX3_pair_103 : decode cX3_pair 103 = .ok (.iload_n 2, 1) := by decide +kernel
theorem dX3_pair_104 : decode cX3_pair 104 = .ok (.iastore, 1) := by decide +kernel
theorem dX3_pair_105 : decode cX3_pair 105 = .ok (.iload 5, 2) := by decide +kernel
theorem dX3_pair_107 : decode cX3_pair 107 = .ok (.ireturn, 1) := by decide +kernel
set_option maxRecDepth 20000 in
theorem ggX3_power_X3_make : GoodIn wsX3_power wsX3_make := goodIn_r _ [8, 9, 1, 10, 3, 2, 11, 26, 27, 28, 29, 30, 31, 32, 33, 34, 35, 36, 37, 38] (by decide +kernel) (by decide +kernel)
set_option maxRecDepth 20000 in
theorem gX3_power_X3_make : GoodIn wsX3_power (wsV RX3 53 RX3 yX3_make wsX3_make) := goodIn_app (goodIn_of _ (by decide +kernel)) ggX3_power_X3_make
set_option maxRecDepth 20000 in
theorem ggX3_power_X3_isOf : GoodIn wsX3_power wsX3_isOf := goodIn_r _ [15, 1, 16, 17, 7, 18, 26, 27, 28, 29, 30, 31, 32, 33, 34, 35, 36, 37, 38] (by decide +kernel) (by decide +kernel)
set_option maxRecDepth 20000 in
theorem gX3_power_X3_isOf : GoodIn wsX3_power (wsV RX3 68 RX3 yX3_isOf wsX3_isOf) := goodIn_app (goodIn_of _ (by decide +kernel)) ggX3_power_X3_isOf
set_option maxRecDepth 20000 in
theorem ggX3_power_X3_levelsOf : GoodIn wsX3_power wsX3_levelsOf := goodIn_r _ [22, 10, 11, 2, 3, 4, 5, 6, 7, 8, 9, 1, 26, 27, 28, 29, 30, 31, 32, 33, 34, 35, 36, 37, 38] (by decide +kernel) (by decide +kernel)
set_option maxRecDepth 20000 in
theorem gX3_power_X3_levelsOf : GoodIn wsX3_power (wsV RX3 85 RX3 yX3_levelsOf wsX3_levelsOf) := goodIn_app (goodIn_of _ (by decide +kernel)) ggX3_power_X3_levelsOf
set_option maxRecDepth 20000 in
theorem ggX3_power_X3_with : GoodIn wsX3_power wsX3_with := goodIn_r _ [25] (by decide +kernel) (by decide +kernel)
set_option maxRecDepth 20000 in
theorem gX3_power_X3_with : GoodIn wsX3_power (va_wsS RX3 75 yX3_with wsX3_with) := goodIn_app (goodIn_of _ (by decide +kernel)) ggX3_power_X3_with
theorem dX3_power_0 : decode cX3_power 0 = .ok (.aload_n 0, 1) := by decide +kernel
theorem dX3_power_1 : decode cX3_power 1 = .ok (.getfield 7, 3) := by decide +kernel
theorem dX3_power_4 : decode cX3_power 4 = .ok (.iload_n 1, 1) := by decide +kernel
theorem dX3_power_5 : decode cX3_power 5 = .ok (.iaload, 1) := by decide +kernel
theorem dX3_power_6 : decode cX3_power 6 = .ok (.iconst 5, 1) := by decide +kernel
theorem dX3_power_7 : decode cX3_power 7 = .ok (.if_icmp .ne 30, 3) := by decide +kernel
theorem dX3_power_10 : decode cX3_power 10 = .ok (.aload_n 0, 1) := by decide +kernel
theorem dX3_power_11 : decode cX3_power 11 = .ok (.iconst 1, 1) := by decide +kernel
theorem dX3_power_12 : decode cX3_power 12 = .ok (.iconst 1, 1) := by decide +kernel
theorem dX3_power_13 : decode cX3_power 13 = .ok (.invokevirtual 53, 3) := by decide +kernel
theorem dX3_power_16 : decode cX3_power 16 = .ok (.istore_n 2, 1) := by decide +kernel
theorem dX3_power_17 : decode cX3_power 17 = .ok (.aload_n 0, 1) := by decide +kernel
theorem dX3_power_18 : decode cX3_power 18 = .ok (.getfield 19, 3) := by decide +kernel
theorem dX3_power_21 : decode cX3_power 21 = .ok (.bipush 8, 2) := by decide +kernel
theorem dX3_power_23 : decode cX3_power 23 = .ok (.iload_n 2, 1) := by decide +kernel
theorem dX3_power_24 : decode cX3_power 24 = .ok (.imul, 1) := by decide +kernel
theorem dX3_power_25 : decode cX3_power 25 = .ok (.iconst 3, 1) := by decide +kernel
theorem dX3_power_26 : decode cX3_power 26 = .ok (.aload_n 0, 1) := by decide +kernel
theorem dX3_power_27 : decode cX3_power 27 = .ok (.getfield 16, 3) := by decide +kernel
theorem dX3_power_30 : decode cX3_power 30 = .ok (.iload_n 1, 1) := by decide +kernel
theorem dX3_power_31 : decode cX3_power 31 = .ok (.iaload, 1) := by decide +kernel
theorem dX3_power_32 : decode cX3_power 32 = .ok (.imul, 1) := by decide +kernel
theorem dX3_power_33 : decode cX3_power 33 = .ok (.i2l, 1) := by decide +kernel
theorem dX3_power_34 : decode cX3_power 34 = .ok (.lastore, 1) := by decide +kernel
theorem dX3_power_35 : decode cX3_power 35 = .ok (.iload_n 2, 1) := by decide +kernel
theorem dX3_power_36 : decode cX3_power 36 = .ok (.ireturn, 1) := by decide +kernel
theorem dX3_power_37 : decode cX3_power 37 = .ok (.aload_n 0, 1) := by decide +kernel
theorem dX3_power_38 : decode cX3_power 38 = .ok (.iload_n 1, 1) := by decide +kernel
theorem dX3_power_39 : decode cX3_power 39 = .ok (.bipush 8, 2) := by decide +kernel
theorem dX3_power_41 : decode cX3_power 41 = .ok (.invokevirtual 68, 3) := by decide +kernel
theorem dX3_power_44 : decode cX3_power 44 = .ok (.ifCond .eq 12, 3) := by decide +kernel
theorem dX3_power_47 : decode cX3_power 47 = .ok (.aload_n 0, 1) := by decide +kernel
theorem dX3_power_48 : decode cX3_power 48 = .ok (.iload_n 1, 1) := by decide +kernel
theorem dX3_power_49 : decode cX3_power 49 = .ok (.iconst 3, 1) := by decide +kernel
theorem dX3_power_50 : decode cX3_power 50 = .ok (.invokevirtual 85, 3) := by decide +kernel
theorem dX3_power_53 : decode cX3_power 53 = .ok (.goto 7, 3) := by decide +kernel
theorem dX3_power_56 : decode cX3_power 56 = .ok (.iconst 1, 1) := by decide +kernel
theorem dX3_power_57 : decode cX3_power 57 = .ok (.invokestatic 75, 3) := by decide +kernel
theorem dX3_power_60 : decode cX3_power 60 = .ok (.ireturn, 1) := by decide +kernel
set_option maxRecDepth 20000 in
theorem ggX3_join_X3_isOf : GoodIn wsX3_join wsX3_isOf := goodIn_r _ [9, 1, 10, 11, 8, 12, 30, 31, 32, 33, 34, 35, 36, 37, 38, 39, 40, 41, 42] (by decide +kernel) (by decide +kernel)
set_option maxRecDepth 20000 in
theorem gX3_join_X3_isOf : GoodIn wsX3_join (wsV RX3 68 RX3 yX3_isOf wsX3_isOf) := goodIn_app (goodIn_of _ (by decide +kernel)) ggX3_join_X3_isOf
set_option maxRecDepth 20000 in
theorem ggX3_join_X3_isRow : GoodIn wsX3_join wsX3_isRow := goodIn_r _ [16, 1, 30, 31, 32, 33, 34, 35, 36, 37, 38, 39, 40, 41, 42] (by decide +kernel) (by decide +kernel)
set_option maxRecDepth 20000 in
theorem gX3_join_X3_isRow : GoodIn wsX3_join (wsV RX3 61 RX3 yX3_isRow wsX3_isRow) := goodIn_app (goodIn_of _ (by decide +kernel)) ggX3_join_X3_isRow
set_option maxRecDepth 20000 in
theorem ggX3_join_X3_with : GoodIn wsX3_join wsX3_with := goodIn_r _ [19] (by decide +kernel) (by decide +kernel)
set_option maxRecDepth 20000 in
theorem gX3_join_X3_with : GoodIn wsX3_join (va_wsS RX3 75 yX3_with wsX3_with) := goodIn_app (goodIn_of _ (by decide +kernel)) ggX3_join_X3_with
set_option maxRecDepth 20000 in
theorem ggX3_join_X3_takes : GoodIn wsX3_join wsX3_takes := goodIn_r _ [23, 1, 5, 6, 7, 8, 9, 10, 11, 12, 30, 31, 32, 33, 34, 35, 36, 37, 38, 39, 40, 41, 42] (by decide +kernel) (by decide +kernel)
set_option maxRecDepth 20000 in
theorem gX3_join_X3_takes : GoodIn wsX3_join (wsV RX3 82 RX3 yX3_takes wsX3_takes) := goodIn_app (goodIn_of _ (by decide +kernel)) ggX3_join_X3_takes
set_option maxRecDepth 20000 in
theorem ggX3_join_X3_make : GoodIn wsX3_join wsX3_make := goodIn_r _ [27, 28, 1, 2, 29, 4, 3, 30, 31, 32, 33, 34, 35, 36, 37, 38, 39, 40, 41, 42] (by decide +kernel) (by decide +kernel)
set_option maxRecDepth 20000 in
theorem gX3_join_X3_make : GoodIn wsX3_join (wsV RX3 53 RX3 yX3_make wsX3_make) := goodIn_app (goodIn_of _ (by decide +kernel)) ggX3_join_X3_make
theorem dX3_join_0 : decode cX3_join 0 = .ok (.aload_n 0, 1) := by decide +kernel
theorem dX3_join_1 : decode cX3_join 1 = .ok (.iload_n 1, 1) := by decide +kernel
theorem dX3_join_2 : decode cX3_join 2 = .ok (.bipush 6, 2) := by decide +kernel
theorem dX3_join_4 : decode cX3_join 4 = .ok (.invokevirtual 68, 3) := by decide +kernel
theorem dX3_join_7 : decode cX3_join 7 = .ok (.istore_n 3, 1) := by decide +kernel
theorem dX3_join_8 : decode cX3_join 8 = .ok (.iload_n 1, 1) := by decide +kernel
theorem dX3_join_9 : decode cX3_join 9 = .ok (.iconst (-1), 1) := by decide +kernel
theorem dX3_join_10 : decode cX3_join 10 = .ok (.if_icmp .eq 15, 3) := by decide +kernel
theorem dX3_join_13 : decode cX3_join 13 = .ok (.aload_n 0, 1) := by decide +kernel
theorem dX3_join_14 : decode cX3_join 14 = .ok (.iload_n 1, 1) := by decide +kernel
theorem dX3_join_15 : decode cX3_join 15 = .ok (.invokevirtual 61, 3) := by decide +kernel
theorem dX3_join_18 : decode cX3_join 18 = .ok (.ifCond .ne 7, 3) := by decide +kernel
theorem dX3_join_21 : decode cX3_join 21 = .ok (.iload_n 3, 1) := by decide +kernel
theorem dX3_join_22 : decode cX3_join 22 = .ok (.ifCond .eq 36, 3) := by decide +kernel
theorem dX3_join_25 : decode cX3_join 25 = .ok (.iload_n 2, 1) := by decide +kernel
theorem dX3_join_26 : decode cX3_join 26 = .ok (.iconst (-1), 1) := by decide +kernel
theorem dX3_join_27 : decode cX3_join 27 = .ok (.if_icmp .eq 36, 3) := by decide +kernel
theorem dX3_join_30 : decode cX3_join 30 = .ok (.aload_n 0, 1) := by decide +kernel
theorem dX3_join_31 : decode cX3_join 31 = .ok (.iload_n 2, 1) := by decide +kernel
theorem dX3_join_32 : decode cX3_join 32 = .ok (.iload_n 3, 1) := by decide +kernel
theorem dX3_join_33 : decode cX3_join 33 = .ok (.ifCond .ne 8, 3) := by decide +kernel
theorem dX3_join_36 : decode cX3_join 36 = .ok (.iload_n 1, 1) := by decide +kernel
theorem dX3_join_37 : decode cX3_join 37 = .ok (.iconst (-1), 1) := by decide +kernel
theorem dX3_join_38 : decode cX3_join 38 = .ok (.if_icmp .ne 8, 3) := by decide +kernel
theorem dX3_join_41 : decode cX3_join 41 = .ok (.bipush 6, 2) := by decide +kernel
theorem dX3_join_43 : decode cX3_join 43 = .ok (.goto 9, 3) := by decide +kernel
theorem dX3_join_46 : decode cX3_join 46 = .ok (.aload_n 0, 1) := by decide +kernel
theorem dX3_join_47 : decode cX3_join 47 = .ok (.getfield 7, 3) := by decide +kernel
theorem dX3_join_50 : decode cX3_join 50 = .ok (.iload_n 1, 1) := by decide +kernel
theorem dX3_join_51 : decode cX3_join 51 = .ok (.iaload, 1) := by decide +kernel
theorem dX3_join_52 : decode cX3_join 52 = .ok (.invokevirtual 68, 3) := by decide +kernel
theorem dX3_join_55 : decode cX3_join 55 = .ok (.ifCond .ne 8, 3) := by decide +kernel
theorem dX3_join_58 : decode cX3_join 58 = .ok (.iconst 1, 1) := by decide +kernel
theorem dX3_join_59 : decode cX3_join 59 = .ok (.invokestatic 75, 3) := by decide +kernel
theorem dX3_join_62 : decode cX3_join 62 = .ok (.ireturn, 1) := by decide +kernel
theorem dX3_join_63 : decode cX3_join 63 = .ok (.iload_n 1, 1) := by decide +kernel
theorem dX3_join_64 : decode cX3_join 64 = .ok (.iconst (-1), 1) := by decide +kernel
theorem dX3_join_65 : decode cX3_join 65 = .ok (.if_icmp .eq 8, 3) := by decide +kernel
theorem dX3_join_68 : decode cX3_join 68 = .ok (.iload_n 2, 1) := by decide +kernel
theorem dX3_join_69 : decode cX3_join 69 = .ok (.iconst (-1), 1) := by decide +kernel
theorem dX3_join_70 : decode cX3_join 70 = .ok (.if_icmp .ne 8, 3) := by decide +kernel
theorem dX3_join_73 : decode cX3_join 73 = .ok (.iconst 2, 1) := by decide +kernel
theorem dX3_join_74 : decode cX3_join 74 = .ok (.invokestatic 75, 3) := by decide +kernel
