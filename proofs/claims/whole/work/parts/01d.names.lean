theorem dX2_sum_1 : decode cX2_sum 1 = .ok (.iconst (-1), 1) := by decide +kernel
theorem dX2_sum_2 : decode cX2_sum 2 = .ok (.if_icmp .ne 8, 3) := by decide +kernel
theorem dX2_sum_5 : decode cX2_sum 5 = .ok (.iconst 2, 1) := by decide +kernel
theorem dX2_sum_6 : decode cX2_sum 6 = .ok (.invokestatic 130, 3) := by decide +kernel
theorem dX2_sum_9 : decode cX2_sum 9 = .ok (.ireturn, 1) := by decide +kernel
theorem dX2_sum_10 : decode cX2_sum 10 = .ok (.aload_n 0, 1) := by decide +kernel
theorem dX2_sum_11 : decode cX2_sum 11 = .ok (.getfield 10, 3) := by decide +kernel
theorem dX2_sum_14 : decode cX2_sum 14 = .ok (.iload_n 1, 1) := by decide +kernel
theorem dX2_sum_15 : decode cX2_sum 15 = .ok (.invokevirtual 47, 3) := by decide +kernel
theorem dX2_sum_18 : decode cX2_sum 18 = .ok (.ifCond .eq 17, 3) := by decide +kernel
theorem dX2_sum_21 : decode cX2_sum 21 = .ok (.aload_n 0, 1) := by decide +kernel
theorem dX2_sum_22 : decode cX2_sum 22 = .ok (.getfield 10, 3) := by decide +kernel
theorem dX2_sum_25 : decode cX2_sum 25 = .ok (.iconst 2, 1) := by decide +kernel
theorem dX2_sum_26 : decode cX2_sum 26 = .ok (.aload_n 0, 1) := by decide +kernel
theorem dX2_sum_27 : decode cX2_sum 27 = .ok (.iload_n 1, 1) := by decide +kernel
theorem dX2_sum_28 : decode cX2_sum 28 = .ok (.invokevirtual 175, 3) := by decide +kernel
theorem dX2_sum_31 : decode cX2_sum 31 = .ok (.invokevirtual 179, 3) := by decide +kernel
theorem dX2_sum_34 : decode cX2_sum 34 = .ok (.ireturn, 1) := by decide +kernel
theorem dX2_sum_35 : decode cX2_sum 35 = .ok (.aload_n 0, 1) := by decide +kernel
theorem dX2_sum_36 : decode cX2_sum 36 = .ok (.getfield 10, 3) := by decide +kernel
theorem dX2_sum_39 : decode cX2_sum 39 = .ok (.iload_n 1, 1) := by decide +kernel
theorem dX2_sum_40 : decode cX2_sum 40 = .ok (.iconst 3, 1) := by decide +kernel
theorem dX2_sum_41 : decode cX2_sum 41 = .ok (.invokevirtual 58, 3) := by decide +kernel
theorem dX2_sum_44 : decode cX2_sum 44 = .ok (.ifCond .ne 8, 3) := by decide +kernel
theorem dX2_sum_47 : decode cX2_sum 47 = .ok (.iconst 1, 1) := by decide +kernel
theorem dX2_sum_48 : decode cX2_sum 48 = .ok (.invokestatic 130, 3) := by decide +kernel
theorem dX2_sum_51 : decode cX2_sum 51 = .ok (.ireturn, 1) := by decide +kernel
theorem dX2_sum_52 : decode cX2_sum 52 = .ok (.aload_n 0, 1) := by decide +kernel
theorem dX2_sum_53 : decode cX2_sum 53 = .ok (.getfield 10, 3) := by decide +kernel
theorem dX2_sum_56 : decode cX2_sum 56 = .ok (.iload_n 1, 1) := by decide +kernel
theorem dX2_sum_57 : decode cX2_sum 57 = .ok (.invokevirtual 116, 3) := by decide +kernel
theorem dX2_sum_60 : decode cX2_sum 60 = .ok (.istore_n 2, 1) := by decide +kernel
theorem dX2_sum_61 : decode cX2_sum 61 = .ok (.aload_n 0, 1) := by decide +kernel
theorem dX2_sum_62 : decode cX2_sum 62 = .ok (.getfield 10, 3) := by decide +kernel
theorem dX2_sum_65 : decode cX2_sum 65 = .ok (.iconst 2, 1) := by decide +kernel
theorem dX2_sum_66 : decode cX2_sum 66 = .ok (.iload_n 2, 1) := by decide +kernel
theorem dX2_sum_67 : decode cX2_sum 67 = .ok (.invokevirtual 37, 3) := by decide +kernel
theorem dX2_sum_70 : decode cX2_sum 70 = .ok (.istore_n 3, 1) := by decide +kernel
theorem dX2_sum_71 : decode cX2_sum 71 = .ok (.iconst 0, 1) := by decide +kernel
theorem dX2_sum_72 : decode cX2_sum 72 = .ok (.istore 4, 2) := by decide +kernel
theorem dX2_sum_74 : decode cX2_sum 74 = .ok (.iload 4, 2) := by decide +kernel
theorem dX2_sum_76 : decode cX2_sum 76 = .ok (.iload_n 2, 1) := by decide +kernel
theorem dX2_sum_77 : decode cX2_sum 77 = .ok (.if_icmp .ge 33, 3) := by decide +kernel
theorem dX2_sum_80 : decode cX2_sum 80 = .ok (.aload_n 0, 1) := by decide +kernel
theorem dX2_sum_81 : decode cX2_sum 81 = .ok (.getfield 10, 3) := by decide +kernel
theorem dX2_sum_84 : decode cX2_sum 84 = .ok (.iload_n 3, 1) := by decide +kernel
theorem dX2_sum_85 : decode cX2_sum 85 = .ok (.iload 4, 2) := by decide +kernel
theorem dX2_sum_87 : decode cX2_sum 87 = .ok (.aload_n 0, 1) := by decide +kernel
theorem dX2_sum_88 : decode cX2_sum 88 = .ok (.aload_n 0, 1) := by decide +kernel
theorem dX2_sum_89 : decode cX2_sum 89 = .ok (.getfield 10, 3) := by decide +kernel
theorem dX2_sum_92 : decode cX2_sum 92 = .ok (.iload_n 1, 1) := by decide +kernel
theorem dX2_sum_93 : decode cX2_sum 93 = .ok (.iload 4, 2) := by decide +kernel
theorem dX2_sum_95 : decode cX2_sum 95 = .ok (.invokevirtual 183, 3) := by decide +kernel
theorem dX2_sum_98 : decode cX2_sum 98 = .ok (.invokevirtual 175, 3) := by decide +kernel
theorem dX2_sum_101 : decode cX2_sum 101 = .ok (.invokevirtual 54, 3) := by decide +kernel
theorem dX2_sum_104 : decode cX2_sum 104 = .ok (.iinc 4 1, 3) := by decide +kernel
theorem dX2_sum_107 : decode cX2_sum 107 = .ok (.goto (-33), 3) := by decide +kernel
theorem dX2_sum_110 : decode cX2_sum 110 = .ok (.iload_n 3, 1) := by decide +kernel
theorem dX2_sum_111 : decode cX2_sum 111 = .ok (.ireturn, 1) := by decide +kernel
set_option maxRecDepth 20000 in
theorem ggX2_totalOf_X1_lengthOf : GoodIn wsX2_totalOf wsX1_lengthOf := goodIn_r _ [6, 7, 8, 9, 10, 5, 11, 12, 27, 28, 29, 30, 31] (by decide +kernel) (by decide +kernel)
set_option maxRecDepth 20000 in
theorem gX2_totalOf_X1_lengthOf : GoodIn wsX2_totalOf (wsV RX2 116 RX1 yX1_lengthOf wsX1_lengthOf) := goodIn_app (goodIn_of _ (by decide +kernel)) ggX2_totalOf_X1_lengthOf
set_option maxRecDepth 20000 in
theorem ggX2_totalOf_X1_cellOf : GoodIn wsX2_totalOf wsX1_cellOf := goodIn_r _ [16, 17, 18, 19, 20, 5, 21, 12, 7, 27, 28, 29, 30, 31] (by decide +kernel) (by decide +kernel)
set_option maxRecDepth 20000 in
theorem gX2_totalOf_X1_cellOf : GoodIn wsX2_totalOf (wsV RX2 65 RX1 yX1_cellOf wsX1_cellOf) := goodIn_app (goodIn_of _ (by decide +kernel)) ggX2_totalOf_X1_cellOf
theorem dX2_totalOf_0 : decode cX2_totalOf 0 = .ok (.lconst 0, 1) := by decide +kernel
theorem dX2_totalOf_1 : decode cX2_totalOf 1 = .ok (.lstore_n 2, 1) := by decide +kernel
theorem dX2_totalOf_2 : decode cX2_totalOf 2 = .ok (.aload_n 0, 1) := by decide +kernel
theorem dX2_totalOf_3 : decode cX2_totalOf 3 = .ok (.getfield 10, 3) := by decide +kernel
theorem dX2_totalOf_6 : decode cX2_totalOf 6 = .ok (.iload_n 1, 1) := by decide +kernel
theorem dX2_totalOf_7 : decode cX2_totalOf 7 = .ok (.invokevirtual 116, 3) := by decide +kernel
theorem dX2_totalOf_10 : decode cX2_totalOf 10 = .ok (.istore 4, 2) := by decide +kernel
theorem dX2_totalOf_12 : decode cX2_totalOf 12 = .ok (.iconst 0, 1) := by decide +kernel
theorem dX2_totalOf_13 : decode cX2_totalOf 13 = .ok (.istore 5, 2) := by decide +kernel
theorem dX2_totalOf_15 : decode cX2_totalOf 15 = .ok (.iload 5, 2) := by decide +kernel
theorem dX2_totalOf_17 : decode cX2_totalOf 17 = .ok (.iload 4, 2) := by decide +kernel
theorem dX2_totalOf_19 : decode cX2_totalOf 19 = .ok (.if_icmp .ge 22, 3) := by decide +kernel
theorem dX2_totalOf_22 : decode cX2_totalOf 22 = .ok (.lload_n 2, 1) := by decide +kernel
theorem dX2_totalOf_23 : decode cX2_totalOf 23 = .ok (.aload_n 0, 1) := by decide +kernel
theorem dX2_totalOf_24 : decode cX2_totalOf 24 = .ok (.getfield 10, 3) := by decide +kernel
theorem dX2_totalOf_27 : decode cX2_totalOf 27 = .ok (.iload_n 1, 1) := by decide +kernel
theorem dX2_totalOf_28 : decode cX2_totalOf 28 = .ok (.iload 5, 2) := by decide +kernel
theorem dX2_totalOf_30 : decode cX2_totalOf 30 = .ok (.invokevirtual 65, 3) := by decide +kernel
theorem dX2_totalOf_33 : decode cX2_totalOf 33 = .ok (.ladd, 1) := by decide +kernel
theorem dX2_totalOf_34 : decode cX2_totalOf 34 = .ok (.lstore_n 2, 1) := by decide +kernel
theorem dX2_totalOf_35 : decode cX2_totalOf 35 = .ok (.iinc 5 1, 3) := by decide +kernel
theorem dX2_totalOf_38 : decode cX2_totalOf 38 = .ok (.goto (-23), 3) := by decide +kernel
theorem dX2_totalOf_41 : decode cX2_totalOf 41 = .ok (.lload_n 2, 1) := by decide +kernel
theorem dX2_totalOf_42 : decode cX2_totalOf 42 = .ok (.lreturn, 1) := by decide +kernel
set_option maxRecDepth 20000 in
theorem ggX2_widen_X2_fault : GoodIn wsX2_widen wsX2_fault := goodIn_r _ [5] (by decide +kernel) (by decide +kernel)
set_option maxRecDepth 20000 in
theorem gX2_widen_X2_fault : GoodIn wsX2_widen (va_wsS RX2 130 yX2_fault wsX2_fault) := goodIn_app (goodIn_of _ (by decide +kernel)) ggX2_widen_X2_fault
set_option maxRecDepth 20000 in
theorem ggX2_widen_X1_isA : GoodIn wsX2_widen wsX1_isA := goodIn_r _ [10, 11, 12, 13, 14, 9, 15, 16, 17, 4, 18, 62, 63, 64, 65, 66] (by decide +kernel) (by decide +kernel)
set_option maxRecDepth 20000 in
theorem gX2_widen_X1_isA : GoodIn wsX2_widen (wsV RX2 58 RX1 yX1_isA wsX1_isA) := goodIn_app (goodIn_of _ (by decide +kernel)) ggX2_widen_X1_isA
set_option maxRecDepth 20000 in
theorem ggX2_widen_X1_addCopy : GoodIn wsX2_widen wsX1_addCopy := goodIn_r _ [22, 23, 24, 25, 9, 26, 27, 12, 13, 14, 15, 16, 28, 29, 30, 31, 11, 32, 33, 34, 4, 35, 36, 37, 38, 39, 40, 41, 42, 43, 44, 45, 46, 47, 48, 49, 50, 51, 52, 53, 54, 55, 56, 62, 63, 64, 65, 66] (by decide +kernel) (by decide +kernel)
set_option maxRecDepth 20000 in
theorem gX2_widen_X1_addCopy : GoodIn wsX2_widen (wsV RX2 186 RX1 yX1_addCopy wsX1_addCopy) := goodIn_app (goodIn_of _ (by decide +kernel)) ggX2_widen_X1_addCopy
theorem dX2_widen_0 : decode cX2_widen 0 = .ok (.iload_n 1, 1) := by decide +kernel
theorem dX2_widen_1 : decode cX2_widen 1 = .ok (.iconst (-1), 1) := by decide +kernel
theorem dX2_widen_2 : decode cX2_widen 2 = .ok (.if_icmp .ne 8, 3) := by decide +kernel
theorem dX2_widen_5 : decode cX2_widen 5 = .ok (.iconst 2, 1) := by decide +kernel
theorem dX2_widen_6 : decode cX2_widen 6 = .ok (.invokestatic 130, 3) := by decide +kernel
theorem dX2_widen_9 : decode cX2_widen 9 = .ok (.ireturn, 1) := by decide +kernel
theorem dX2_widen_10 : decode cX2_widen 10 = .ok (.aload_n 0, 1) := by decide +kernel
theorem dX2_widen_11 : decode cX2_widen 11 = .ok (.getfield 10, 3) := by decide +kernel
theorem dX2_widen_14 : decode cX2_widen 14 = .ok (.iload_n 1, 1) := by decide +kernel
theorem dX2_widen_15 : decode cX2_widen 15 = .ok (.iconst 0, 1) := by decide +kernel
theorem dX2_widen_16 : decode cX2_widen 16 = .ok (.invokevirtual 58, 3) := by decide +kernel
theorem dX2_widen_19 : decode cX2_widen 19 = .ok (.ifCond .eq 13, 3) := by decide +kernel
theorem dX2_widen_22 : decode cX2_widen 22 = .ok (.aload_n 0, 1) := by decide +kernel
theorem dX2_widen_23 : decode cX2_widen 23 = .ok (.getfield 10, 3) := by decide +kernel
theorem dX2_widen_26 : decode cX2_widen 26 = .ok (.iload_n 1, 1) := by decide +kernel
theorem dX2_widen_27 : decode cX2_widen 27 = .ok (.iconst 1, 1) := by decide +kernel
theorem dX2_widen_28 : decode cX2_widen 28 = .ok (.invokevirtual 186, 3) := by decide +kernel
theorem dX2_widen_31 : decode cX2_widen 31 = .ok (.ireturn, 1) := by decide +kernel
theorem dX2_widen_32 : decode cX2_widen 32 = .ok (.aload_n 0, 1) := by decide +kernel
theorem dX2_widen_33 : decode cX2_widen 33 = .ok (.getfield 10, 3) := by decide +kernel
theorem dX2_widen_36 : decode cX2_widen 36 = .ok (.iload_n 1, 1) := by decide +kernel
theorem dX2_widen_37 : decode cX2_widen 37 = .ok (.iconst 1, 1) := by decide +kernel
theorem dX2_widen_38 : decode cX2_widen 38 = .ok (.invokevirtual 58, 3) := by decide +kernel
theorem dX2_widen_41 : decode cX2_widen 41 = .ok (.ifCond .eq 15, 3) := by decide +kernel
theorem dX2_widen_44 : decode cX2_widen 44 = .ok (.aload_n 0, 1) := by decide +kernel
theorem dX2_widen_45 : decode cX2_widen 45 = .ok (.getfield 10, 3) := by decide +kernel
theorem dX2_widen_48 : decode cX2_widen 48 = .ok (.iload_n 1, 1) := by decide +kernel
theorem dX2_widen_49 : decode cX2_widen 49 = .ok (.iconst 2, 1) := by decide +kernel
theorem dX2_widen_50 : decode cX2_widen 50 = .ok (.invokevirtual 186, 3) := by decide +kernel
theorem dX2_widen_53 : decode cX2_widen 53 = .ok (.goto 7, 3) := by decide +kernel
theorem dX2_widen_56 : decode cX2_widen 56 = .ok (.iconst 1, 1) := by decide +kernel
theorem dX2_widen_57 : decode cX2_widen 57 = .ok (.invokestatic 130, 3) := by decide +kernel
theorem dX2_widen_60 : decode cX2_widen 60 = .ok (.ireturn, 1) := by decide +kernel
set_option maxRecDepth 20000 in
theorem ggX2_narrow_X2_fault : GoodIn wsX2_narrow wsX2_fault := goodIn_r _ [5] (by decide +kernel) (by decide +kernel)
set_option maxRecDepth 20000 in
theorem gX2_narrow_X2_fault : GoodIn wsX2_narrow (va_wsS RX2 130 yX2_fault wsX2_fault) := goodIn_app (goodIn_of _ (by decide +kernel)) ggX2_narrow_X2_fault
set_option maxRecDepth 20000 in
theorem ggX2_narrow_X1_isA : GoodIn wsX2_narrow wsX1_isA := goodIn_r _ [10, 11, 12, 13, 14, 9, 15, 16, 17, 4, 18, 62, 63, 64, 65, 66] (by decide +kernel) (by decide +kernel)
set_option maxRecDepth 20000 in
theorem gX2_narrow_X1_isA : GoodIn wsX2_narrow (wsV RX2 58 RX1 yX1_isA wsX1_isA) := goodIn_app (goodIn_of _ (by decide +kernel)) ggX2_narrow_X1_isA
set_option maxRecDepth 20000 in
theorem ggX2_narrow_X1_addCopy : GoodIn wsX2_narrow wsX1_addCopy := goodIn_r _ [22, 23, 24, 25, 9, 26, 27, 12, 13, 14, 15, 16, 28, 29, 30, 31, 11, 32, 33, 34, 4, 35, 36, 37, 38, 39, 40, 41, 42, 43, 44, 45, 46, 47, 48, 49, 50, 51, 52, 53, 54, 55, 56, 62, 63, 64, 65, 66] (by decide +kernel) (by decide +kernel)
set_option maxRecDepth 20000 in
theorem gX2_narrow_X1_addCopy : GoodIn wsX2_narrow (wsV RX2 186 RX1 yX1_addCopy wsX1_addCopy) := goodIn_app (goodIn_of _ (by decide +kernel)) ggX2_narrow_X1_addCopy
theorem dX2_narrow_0 : decode cX2_narrow 0 = .ok (.iload_n 1, 1) := by decide +kernel
theorem dX2_narrow_1 : decode cX2_narrow 1 = .ok (.iconst (-1), 1) := by decide +kernel
theorem dX2_narrow_2 : decode cX2_narrow 2 = .ok (.if_icmp .ne 8, 3) := by decide +kernel
theorem dX2_narrow_5 : decode cX2_narrow 5 = .ok (.iconst 2, 1) := by decide +kernel
theorem dX2_narrow_6 : decode cX2_narrow 6 = .ok (.invokestatic 130, 3) := by decide +kernel
theorem dX2_narrow_9 : decode cX2_narrow 9 = .ok (.ireturn, 1) := by decide +kernel
theorem dX2_narrow_10 : decode cX2_narrow 10 = .ok (.aload_n 0, 1) := by decide +kernel
theorem dX2_narrow_11 : decode cX2_narrow 11 = .ok (.getfield 10, 3) := by decide +kernel
theorem dX2_narrow_14 : decode cX2_narrow 14 = .ok (.iload_n 1, 1) := by decide +kernel
theorem dX2_narrow_15 : decode cX2_narrow 15 = .ok (.iconst 2, 1) := by decide +kernel
theorem dX2_narrow_16 : decode cX2_narrow 16 = .ok (.invokevirtual 58, 3) := by decide +kernel
theorem dX2_narrow_19 : decode cX2_narrow 19 = .ok (.ifCond .eq 13, 3) := by decide +kernel
theorem dX2_narrow_22 : decode cX2_narrow 22 = .ok (.aload_n 0, 1) := by decide +kernel
theorem dX2_narrow_23 : decode cX2_narrow 23 = .ok (.getfield 10, 3) := by decide +kernel
theorem dX2_narrow_26 : decode cX2_narrow 26 = .ok (.iload_n 1, 1) := by decide +kernel
theorem dX2_narrow_27 : decode cX2_narrow 27 = .ok (.iconst 1, 1) := by decide +kernel
theorem dX2_narrow_28 : decode cX2_narrow 28 = .ok (.invokevirtual 186, 3) := by decide +kernel
theorem dX2_narrow_31 : decode cX2_narrow 31 = .ok (.ireturn, 1) := by decide +kernel
theorem dX2_narrow_32 : decode cX2_narrow 32 = .ok (.aload_n 0, 1) := by decide +kernel
theorem dX2_narrow_33 : decode cX2_narrow 33 = .ok (.getfield 10, 3) := by decide +kernel
theorem dX2_narrow_36 : decode cX2_narrow 36 = .ok (.iload_n 1, 1) := by decide +kernel
theorem dX2_narrow_37 : decode cX2_narrow 37 = .ok (.iconst 1, 1) := by decide +kernel
theorem dX2_narrow_38 : decode cX2_narrow 38 = .ok (.invokevirtual 58, 3) := by decide +kernel
theorem dX2_narrow_41 : decode cX2_narrow 41 = .ok (.ifCond .eq 15, 3) := by decide +kernel
theorem dX2_narrow_44 : decode cX2_narrow 44 = .ok (.aload_n 0, 1) := by decide +kernel
theorem dX2_narrow_45 : decode cX2_narrow 45 = .ok (.getfield 10, 3) := by decide +kernel
theorem dX2_narrow_48 : decode cX2_narrow 48 = .ok (.iload_n 1, 1) := by decide +kernel
theorem dX2_narrow_49 : decode cX2_narrow 49 = .ok (.iconst 0, 1) := by decide +kernel
theorem dX2_narrow_50 : decode cX2_narrow 50 = .ok (.invokevirtual 186, 3) := by decide +kernel
theorem dX2_narrow_53 : decode cX2_narrow 53 = .ok (.goto 7, 3) := by decide +kernel
theorem dX2_narrow_56 : decode cX2_narrow 56 = .ok (.iconst 1, 1) := by decide +kernel
theorem dX2_narrow_57 : decode cX2_narrow 57 = .ok (.invokestatic 130, 3) := by decide +kernel
theorem dX2_narrow_60 : decode cX2_narrow 60 = .ok (.ireturn, 1) := by decide +kernel
set_option maxRecDepth 20000 in
theorem ggX2_tap_X2_fault : GoodIn wsX2_tap wsX2_fault := goodIn_r _ [5] (by decide +kernel) (by decide +kernel)
set_option maxRecDepth 20000 in
theorem gX2_tap_X2_fault : GoodIn wsX2_tap (va_wsS RX2 130 yX2_fault wsX2_fault) := goodIn_app (goodIn_of _ (by decide +kernel)) ggX2_tap_X2_fault
set_option maxRecDepth 20000 in
theorem ggX2_tap_X1_formOf : GoodIn wsX2_tap wsX1_formOf := goodIn_r _ [10, 11, 12, 13, 14, 9, 15, 16, 36, 37, 38, 39, 40] (by decide +kernel) (by decide +kernel)
set_option maxRecDepth 20000 in
theorem gX2_tap_X1_formOf : GoodIn wsX2_tap (wsV RX2 110 RX1 yX1_formOf wsX1_formOf) := goodIn_app (goodIn_of _ (by decide +kernel)) ggX2_tap_X1_formOf
set_option maxRecDepth 20000 in
theorem ggX2_tap_X2_isBoardForm : GoodIn wsX2_tap wsX2_isBoardForm := goodIn_r _ [19] (by decide +kernel) (by decide +kernel)
set_option maxRecDepth 20000 in
theorem gX2_tap_X2_isBoardForm : GoodIn wsX2_tap (va_wsS RX2 41 yX2_isBoardForm wsX2_isBoardForm) := goodIn_app (goodIn_of _ (by decide +kernel)) ggX2_tap_X2_isBoardForm
set_option maxRecDepth 20000 in
theorem ggX2_tap_X1_hasPlace : GoodIn wsX2_tap wsX1_hasPlace := goodIn_r _ [23, 16, 24, 36, 37, 38, 39, 40] (by decide +kernel) (by decide +kernel)
set_option maxRecDepth 20000 in
theorem gX2_tap_X1_hasPlace : GoodIn wsX2_tap (wsV RX2 50 RX1 yX1_hasPlace wsX1_hasPlace) := goodIn_app (goodIn_of _ (by decide +kernel)) ggX2_tap_X1_hasPlace
set_option maxRecDepth 20000 in
theorem ggX2_tap_X1_placed : GoodIn wsX2_tap wsX1_placed := goodIn_r _ [28, 29, 30, 21, 22, 9, 23, 16, 24, 36, 37, 38, 39, 40] (by decide +kernel) (by decide +kernel)
set_option maxRecDepth 20000 in
theorem gX2_tap_X1_placed : GoodIn wsX2_tap (wsV RX2 183 RX1 yX1_placed wsX1_placed) := goodIn_app (goodIn_of _ (by decide +kernel)) ggX2_tap_X1_placed
theorem dX2_tap_0 : decode cX2_tap 0 = .ok (.iload_n 1, 1) := by decide +kernel
theorem dX2_tap_1 : decode cX2_tap 1 = .ok (.iconst (-1), 1) := by decide +kernel
theorem dX2_tap_2 : decode cX2_tap 2 = .ok (.if_icmp .ne 8, 3) := by decide +kernel
theorem dX2_tap_5 : decode cX2_tap 5 = .ok (.iconst 2, 1) := by decide +kernel
theorem dX2_tap_6 : decode cX2_tap 6 = .ok (.invokestatic 130, 3) := by decide +kernel
theorem dX2_tap_9 : decode cX2_tap 9 = .ok (.ireturn, 1) := by decide +kernel
theorem dX2_tap_10 : decode cX2_tap 10 = .ok (.aload_n 0, 1) := by decide +kernel
theorem dX2_tap_11 : decode cX2_tap 11 = .ok (.getfield 10, 3) := by decide +kernel
theorem dX2_tap_14 : decode cX2_tap 14 = .ok (.iload_n 1, 1) := by decide +kernel
theorem dX2_tap_15 : decode cX2_tap 15 = .ok (.invokevirtual 110, 3) := by decide +kernel
theorem dX2_tap_18 : decode cX2_tap 18 = .ok (.invokestatic 41, 3) := by decide +kernel
theorem dX2_tap_21 : decode cX2_tap 21 = .ok (.ifCond .ne 8, 3) := by decide +kernel
theorem dX2_tap_24 : decode cX2_tap 24 = .ok (.iconst 1, 1) := by decide +kernel
theorem dX2_tap_25 : decode cX2_tap 25 = .ok (.invokestatic 130, 3) := by decide +kernel
theorem dX2_tap_28 : decode cX2_tap 28 = .ok (.ireturn, 1) := by decide +kernel
theorem dX2_tap_29 : decode cX2_tap 29 = .ok (.aload_n 0, 1) := by decide +kernel
theorem dX2_tap_30 : decode cX2_tap 30 = .ok (.getfield 10, 3) := by decide +kernel
theorem dX2_tap_33 : decode cX2_tap 33 = .ok (.iload_n 1, 1) := by decide +kernel
theorem dX2_tap_34 : decode cX2_tap 34 = .ok (.iload_n 2, 1) := by decide +kernel
theorem dX2_tap_35 : decode cX2_tap 35 = .ok (.invokevirtual 50, 3) := by decide +kernel
theorem dX2_tap_38 : decode cX2_tap 38 = .ok (.ifCond .ne 8, 3) := by decide +kernel
theorem dX2_tap_41 : decode cX2_tap 41 = .ok (.iconst 3, 1) := by decide +kernel
theorem dX2_tap_42 : decode cX2_tap 42 = .ok (.invokestatic 130, 3) := by decide +kernel
theorem dX2_tap_45 : decode cX2_tap 45 = .ok (.ireturn, 1) := by decide +kernel
theorem dX2_tap_46 : decode cX2_tap 46 = .ok (.aload_n 0, 1) := by decide +kernel
theorem dX2_tap_47 : decode cX2_tap 47 = .ok (.getfield 10, 3) := by decide +kernel
theorem dX2_tap_50 : decode cX2_tap 50 = .ok (.iload_n 1, 1) := by decide +kernel
theorem dX2_tap_51 : decode cX2_tap 51 = .ok (.iload_n 2, 1) := by decide +kernel
theorem dX2_tap_52 : decode cX2_tap 52 = .ok (.invokevirtual 183, 3) := by decide +kernel
theorem dX2_tap_55 : decode cX2_tap 55 = .ok (.istore_n 3, 1) := by decide +kernel
theorem dX2_tap_56 : decode cX2_tap 56 = .ok (.iload_n 3, 1) := by decide +kernel
theorem dX2_tap_57 : decode cX2_tap 57 = .ok (.iconst (-1), 1) := by decide +kernel
theorem dX2_tap_58 : decode cX2_tap 58 = .ok (.if_icmp .ne 10, 3) := by decide +kernel
theorem dX2_tap_61 : decode cX2_tap 61 = .ok (.iconst 2, 1) := by decide +kernel
theorem dX2_tap_62 : decode cX2_tap 62 = .ok (.invokestatic 130, 3) := by decide +kernel
theorem dX2_tap_65 : decode cX2_tap 65 = .ok (.goto 4, 3) := by decide +kernel
theorem dX2_tap_68 : decode cX2_tap 68 = .ok (.iload_n 3, 1) := by decide +kernel
theorem dX2_tap_69 : decode cX2_tap 69 = .ok (.ireturn, 1) := by decide +kernel
set_option maxRecDepth 20000 in
theorem ggX2_lay_X2_askedByLay : GoodIn wsX2_lay wsX2_askedByLay := goodIn_r _ [6, 1, 7, 8, 9, 10, 11, 12, 13, 14, 15, 16, 17, 18, 5, 19, 51, 52, 53, 54, 55, 56, 57, 58, 59, 60] (by decide +kernel) (by decide +kernel)
set_option maxRecDepth 20000 in
theorem gX2_lay_X2_askedByLay : GoodIn wsX2_lay (wsV RX2 189 RX2 yX2_askedByLay wsX2_askedByLay) := goodIn_app (goodIn_of _ (by decide +kernel)) ggX2_lay_X2_askedByLay
set_option maxRecDepth 20000 in
theorem ggX2_lay_X2_isNoneOr : GoodIn wsX2_lay wsX2_isNoneOr := goodIn_r _ [23, 1, 7, 8, 9, 10, 11, 12, 13, 14, 15, 16, 17, 18, 5, 19, 51, 52, 53, 54, 55, 56, 57, 58, 59, 60] (by decide +kernel) (by decide +kernel)
set_option maxRecDepth 20000 in
theorem gX2_lay_X2_isNoneOr : GoodIn wsX2_lay (wsV RX2 192 RX2 yX2_isNoneOr wsX2_isNoneOr) := goodIn_app (goodIn_of _ (by decide +kernel)) ggX2_lay_X2_isNoneOr
set_option maxRecDepth 20000 in
theorem ggX2_lay_X2_fault : GoodIn wsX2_lay wsX2_fault := goodIn_r _ [26] (by decide +kernel) (by decide +kernel)
set_option maxRecDepth 20000 in
theorem gX2_lay_X2_fault : GoodIn wsX2_lay (va_wsS RX2 130 yX2_fault wsX2_fault) := goodIn_app (goodIn_of _ (by decide +kernel)) ggX2_lay_X2_fault
set_option maxRecDepth 20000 in
theorem ggX2_lay_X1_formOf : GoodIn wsX2_lay wsX1_formOf := goodIn_r _ [30, 12, 13, 14, 15, 10, 16, 17, 56, 57, 58, 59, 60] (by decide +kernel) (by decide +kernel)
set_option maxRecDepth 20000 in
theorem gX2_lay_X1_formOf : GoodIn wsX2_lay (wsV RX2 110 RX1 yX1_formOf wsX1_formOf) := goodIn_app (goodIn_of _ (by decide +kernel)) ggX2_lay_X1_formOf
set_option maxRecDepth 20000 in
theorem ggX2_lay_X2_isBoardForm : GoodIn wsX2_lay wsX2_isBoardForm := goodIn_r _ [33] (by decide +kernel) (by decide +kernel)
set_option maxRecDepth 20000 in
theorem gX2_lay_X2_isBoardForm : GoodIn wsX2_lay (va_wsS RX2 41 yX2_isBoardForm wsX2_isBoardForm) := goodIn_app (goodIn_of _ (by decide +kernel)) ggX2_lay_X2_isBoardForm
set_option maxRecDepth 20000 in
theorem ggX2_lay_X1_hasPlace : GoodIn wsX2_lay wsX1_hasPlace := goodIn_r _ [37, 17, 38, 56, 57, 58, 59, 60] (by decide +kernel) (by decide +kernel)
set_option maxRecDepth 20000 in
theorem gX2_lay_X1_hasPlace : GoodIn wsX2_lay (wsV RX2 50 RX1 yX1_hasPlace wsX1_hasPlace) := goodIn_app (goodIn_of _ (by decide +kernel)) ggX2_lay_X1_hasPlace
set_option maxRecDepth 20000 in
theorem ggX2_lay_X2_takenBy : GoodIn wsX2_lay wsX2_takenBy := goodIn_r _ [41] (by decide +kernel) (by decide +kernel)
set_option maxRecDepth 20000 in
theorem gX2_lay_X2_takenBy : GoodIn wsX2_lay (va_wsS RX2 195 yX2_takenBy wsX2_takenBy) := goodIn_app (goodIn_of _ (by decide +kernel)) ggX2_lay_X2_takenBy
set_option maxRecDepth 20000 in
theorem ggX2_lay_X1_put : GoodIn wsX2_lay wsX1_put := goodIn_r _ [45, 46, 12, 47, 35, 36, 10, 37, 17, 38, 48, 49, 50, 56, 57, 58, 59, 60] (by decide +kernel) (by decide +kernel)
set_option maxRecDepth 20000 in
theorem gX2_lay_X1_put : GoodIn wsX2_lay (wsV RX2 54 RX1 yX1_put wsX1_put) := goodIn_app (goodIn_of _ (by decide +kernel)) ggX2_lay_X1_put
theorem dX2_lay_0 : decode cX2_lay 0 = .ok (.aload_n 0, 1) := by decide +kernel
theorem dX2_lay_1 : decode cX2_lay 1 = .ok (.iload_n 2, 1) := by decide +kernel
theorem dX2_lay_2 : decode cX2_lay 2 = .ok (.aload_n 0, 1) := by decide +kernel
theorem dX2_lay_3 : decode cX2_lay 3 = .ok (.iload_n 1, 1) := by decide +kernel
theorem dX2_lay_4 : decode cX2_lay 4 = .ok (.invokevirtual 189, 3) := by decide +kernel
theorem dX2_lay_7 : decode cX2_lay 7 = .ok (.invokevirtual 192, 3) := by decide +kernel
theorem dX2_lay_10 : decode cX2_lay 10 = .ok (.ifCond .ne 8, 3) := by decide +kernel
theorem dX2_lay_13 : decode cX2_lay 13 = .ok (.iconst 1, 1) := by decide +kernel
theorem dX2_lay_14 : decode cX2_lay 14 = .ok (.invokestatic 130, 3) := by decide +kernel
theorem dX2_lay_17 : decode cX2_lay 17 = .ok (.ireturn, 1) := by decide +kernel
theorem dX2_lay_18 : decode cX2_lay 18 = .ok (.iload_n 1, 1) := by decide +kernel
theorem dX2_lay_19 : decode cX2_lay 19 = .ok (.iconst (-1), 1) := by decide +kernel
theorem dX2_lay_20 : decode cX2_lay 20 = .ok (.if_icmp .ne 8, 3) := by decide +kernel
theorem dX2_lay_23 : decode cX2_lay 23 = .ok (.iconst 2, 1) := by decide +kernel
theorem dX2_lay_24 : decode cX2_lay 24 = .ok (.invokestatic 130, 3) := by decide +kernel
theorem dX2_lay_27 : decode cX2_lay 27 = .ok (.ireturn, 1) := by decide +kernel
theorem dX2_lay_28 : decode cX2_lay 28 = .ok (.aload_n 0, 1) := by decide +kernel
theorem dX2_lay_29 : decode cX2_lay 29 = .ok (.getfield 10, 3) := by decide +kernel
theorem dX2_lay_32 : decode cX2_lay 32 = .ok (.iload_n 1, 1) := by decide +kernel
theorem dX2_lay_33 : decode cX2_lay 33 = .ok (.invokevirtual 110, 3) := by decide +kernel
theorem dX2_lay_36 : decode cX2_lay 36 = .ok (.istore 4, 2) := by decide +kernel
theorem dX2_lay_38 : decode cX2_lay 38 = .ok (.iload 4, 2) := by decide +kernel
theorem dX2_lay_40 : decode cX2_lay 40 = .ok (.invokestatic 41, 3) := by decide +kernel
theorem dX2_lay_43 : decode cX2_lay 43 = .ok (.ifCond .ne 8, 3) := by decide +kernel
theorem dX2_lay_46 : decode cX2_lay 46 = .ok (.iconst 1, 1) := by decide +kernel
theorem dX2_lay_47 : decode cX2_lay 47 = .ok (.invokestatic 130, 3) := by decide +kernel
theorem dX2_lay_50 : decode cX2_lay 50 = .ok (.ireturn, 1) := by decide +kernel
theorem dX2_lay_51 : decode cX2_lay 51 = .ok (.aload_n 0, 1) := by decide +kernel
theorem dX2_lay_52 : decode cX2_lay 52 = .ok (.getfield 10, 3) := by decide +kernel
theorem dX2_lay_55 : decode cX2_lay 55 = .ok (.iload_n 1, 1) := by decide +kernel
theorem dX2_lay_56 : decode cX2_lay 56 = .ok (.iload_n 3, 1) := by decide +kernel
theorem dX2_lay_57 : decode cX2_lay 57 = .ok (.invokevirtual 50, 3) := by decide +kernel
theorem dX2_lay_60 : decode cX2_lay 60 = .ok (.ifCond .ne 8, 3) := by decide +kernel
theorem dX2_lay_63 : decode cX2_lay 63 = .ok (.iconst 3, 1) := by decide +kernel
theorem dX2_lay_64 : decode cX2_lay 64 = .ok (.invokestatic 130, 3) := by decide +kernel
theorem dX2_lay_67 : decode cX2_lay 67 = .ok (.ireturn, 1) := by decide +kernel
theorem dX2_lay_68 : decode cX2_lay 68 = .ok (.aload_n 0, 1) := by decide +kernel
theorem dX2_lay_69 : decode cX2_lay 69 = .ok (.iload_n 2, 1) := by decide +kernel
theorem dX2_lay_70 : decode cX2_lay 70 = .ok (.iload 4, 2) := by decide +kernel
theorem dX2_lay_72 : decode cX2_lay 72 = .ok (.invokestatic 195, 3) := by decide +kernel
theorem dX2_lay_75 : decode cX2_lay 75 = .ok (.invokevirtual 192, 3) := by decide +kernel
theorem dX2_lay_78 : decode cX2_lay 78 = .ok (.ifCond .ne 8, 3) := by decide +kernel
theorem dX2_lay_81 : decode cX2_lay 81 = .ok (.iconst 4, 1) := by decide +kernel
theorem dX2_lay_82 : decode cX2_lay 82 = .ok (.invokestatic 130, 3) := by decide +kernel
theorem dX2_lay_85 : decode cX2_lay 85 = .ok (.ireturn, 1) := by decide +kernel
theorem dX2_lay_86 : decode cX2_lay 86 = .ok (.aload_n 0, 1) := by decide +kernel
theorem dX2_lay_87 : decode cX2_lay 87 = .ok (.getfield 10, 3) := by decide +kernel
theorem dX2_lay_90 : decode cX2_lay 90 = .ok (.iload_n 1, 1) := by decide +kernel
theorem dX2_lay_91 : decode cX2_lay 91 = .ok (.iload_n 3, 1) := by decide +kernel
theorem dX2_lay_92 : decode cX2_lay 92 = .ok (.iload_n 2, 1) := by decide +kernel
theorem dX2_lay_93 : decode cX2_lay 93 = .ok (.i2l, 1) := by decide +kernel
theorem dX2_lay_94 : decode cX2_lay 94 = .ok (.invokevirtual 54, 3) := by decide +kernel
theorem dX2_lay_97 : decode cX2_lay 97 = .ok (.iload_n 1, 1) := by decide +kernel
theorem dX2_lay_98 : decode cX2_lay 98 = .ok (.ireturn, 1) := by decide +kernel
set_option maxRecDepth 20000 in
theorem ggX2_askedByLay_X1_isA : GoodIn wsX2_askedByLay wsX1_isA := goodIn_r _ [6, 7, 8, 9, 10, 5, 11, 12, 13, 14, 15, 21, 22, 23, 24, 25] (by decide +kernel) (by decide +kernel)
set_option maxRecDepth 20000 in
theorem gX2_askedByLay_X1_isA : GoodIn wsX2_askedByLay (wsV RX2 58 RX1 yX1_isA wsX1_isA) := goodIn_app (goodIn_of _ (by decide +kernel)) ggX2_askedByLay_X1_isA
theorem dX2_askedByLay_0 : decode cX2_askedByLay 0 = .ok (.aload_n 0, 1) := by decide +kernel
theorem dX2_askedByLay_1 : decode cX2_askedByLay 1 = .ok (.getfield 10, 3) := by decide +kernel
theorem dX2_askedByLay_4 : decode cX2_askedByLay 4 = .ok (.iload_n 1, 1) := by decide +kernel
theorem dX2_askedByLay_5 : decode cX2_askedByLay 5 = .ok (.iconst 3, 1) := by decide +kernel
theorem dX2_askedByLay_6 : decode cX2_askedByLay 6 = .ok (.invokevirtual 58, 3) := by decide +kernel
theorem dX2_askedByLay_9 : decode cX2_askedByLay 9 = .ok (.ifCond .eq 5, 3) := by decide +kernel
theorem dX2_askedByLay_12 : decode cX2_askedByLay 12 = .ok (.iconst 1, 1) := by decide +kernel
theorem dX2_askedByLay_13 : decode cX2_askedByLay 13 = .ok (.ireturn, 1) := by decide +kernel
theorem dX2_askedByLay_14 : decode cX2_askedByLay 14 = .ok (.aload_n 0, 1) := by decide +kernel
theorem dX2_askedByLay_15 : decode cX2_askedByLay 15 = .ok (.getfield 10, 3) := by decide +kernel
theorem dX2_askedByLay_18 : decode cX2_askedByLay 18 = .ok (.iload_n 1, 1) := by decide +kernel
theorem dX2_askedByLay_19 : decode cX2_askedByLay 19 = .ok (.bipush 9, 2) := by decide +kernel
theorem dX2_askedByLay_21 : decode cX2_askedByLay 21 = .ok (.invokevirtual 58, 3) := by decide +kernel
theorem dX2_askedByLay_24 : decode cX2_askedByLay 24 = .ok (.ifCond .eq 6, 3) := by decide +kernel
theorem dX2_askedByLay_27 : decode cX2_askedByLay 27 = .ok (.bipush 6, 2) := by decide +kernel
theorem dX2_askedByLay_29 : decode cX2_askedByLay 29 = .ok (.ireturn, 1) := by decide +kernel
theorem dX2_askedByLay_30 : decode cX2_askedByLay 30 = .ok (.aload_n 0, 1) := by decide +kernel
theorem dX2_askedByLay_31 : decode cX2_askedByLay 31 = .ok (.getfield 10, 3) := by decide +kernel
theorem dX2_askedByLay_34 : decode cX2_askedByLay 34 = .ok (.iload_n 1, 1) := by decide +kernel
theorem dX2_askedByLay_35 : decode cX2_askedByLay 35 = .ok (.bipush 8, 2) := by decide +kernel
theorem dX2_askedByLay_37 : decode cX2_askedByLay 37 = .ok (.invokevirtual 58, 3) := by decide +kernel
theorem dX2_askedByLay_40 : decode cX2_askedByLay 40 = .ok (.ifCond .eq 21, 3) := by decide +kernel
theorem dX2_askedByLay_43 : decode cX2_askedByLay 43 = .ok (.aload_n 0, 1) := by decide +kernel
theorem dX2_askedByLay_44 : decode cX2_askedByLay 44 = .ok (.getfield 10, 3) := by decide +kernel
theorem dX2_askedByLay_47 : decode cX2_askedByLay 47 = .ok (.iload_n 1, 1) := by decide +kernel
theorem dX2_askedByLay_48 : decode cX2_askedByLay 48 = .ok (.bipush 6, 2) := by decide +kernel
theorem dX2_askedByLay_50 : decode cX2_askedByLay 50 = .ok (.invokevirtual 58, 3) := by decide +kernel
theorem dX2_askedByLay_53 : decode cX2_askedByLay 53 = .ok (.ifCond .ne 8, 3) := by decide +kernel
theorem dX2_askedByLay_56 : decode cX2_askedByLay 56 = .ok (.bipush 11, 2) := by decide +kernel
theorem dX2_askedByLay_58 : decode cX2_askedByLay 58 = .ok (.goto 4, 3) := by decide +kernel
theorem dX2_askedByLay_61 : decode cX2_askedByLay 61 = .ok (.iconst 4, 1) := by decide +kernel
theorem dX2_askedByLay_62 : decode cX2_askedByLay 62 = .ok (.ireturn, 1) := by decide +kernel
set_option maxRecDepth 20000 in
theorem ggX2_isNoneOr_X1_isA : GoodIn wsX2_isNoneOr wsX1_isA := goodIn_r _ [6, 7, 8, 9, 10, 5, 11, 12, 13, 14, 15, 21, 22, 23, 24, 25] (by decide +kernel) (by decide +kernel)
set_option maxRecDepth 20000 in
theorem gX2_isNoneOr_X1_isA : GoodIn wsX2_isNoneOr (wsV RX2 58 RX1 yX1_isA wsX1_isA) := goodIn_app (goodIn_of _ (by decide +kernel)) ggX2_isNoneOr_X1_isA
theorem dX2_isNoneOr_0 : decode cX2_isNoneOr 0 = .ok (.iload_n 1, 1) := by decide +kernel
theorem dX2_isNoneOr_1 : decode cX2_isNoneOr 1 = .ok (.iconst (-1), 1) := by decide +kernel
theorem dX2_isNoneOr_2 : decode cX2_isNoneOr 2 = .ok (.if_icmp .eq 15, 3) := by decide +kernel
theorem dX2_isNoneOr_5 : decode cX2_isNoneOr 5 = .ok (.aload_n 0, 1) := by decide +kernel
theorem dX2_isNoneOr_6 : decode cX2_isNoneOr 6 = .ok (.getfield 10, 3) := by decide +kernel
theorem dX2_isNoneOr_9 : decode cX2_isNoneOr 9 = .ok (.iload_n 1, 1) := by decide +kernel
theorem dX2_isNoneOr_10 : decode cX2_isNoneOr 10 = .ok (.iload_n 2, 1) := by decide +kernel
theorem dX2_isNoneOr_11 : decode cX2_isNoneOr 11 = .ok (.invokevirtual 58, 3) := by decide +kernel
theorem dX2_isNoneOr_14 : decode cX2_isNoneOr 14 = .ok (.ifCond .eq 7, 3) := by decide +kernel
theorem dX2_isNoneOr_17 : decode cX2_isNoneOr 17 = .ok (.iconst 1, 1) := by decide +kernel
theorem dX2_isNoneOr_18 : decode cX2_isNoneOr 18 = .ok (.goto 4, 3) := by decide +kernel
theorem dX2_isNoneOr_21 : decode cX2_isNoneOr 21 = .ok (.iconst 0, 1) := by decide +kernel
theorem dX2_isNoneOr_22 : decode cX2_isNoneOr 22 = .ok (.ireturn, 1) := by decide +kernel
set_option maxRecDepth 20000 in
theorem ggX2_levels_X2_fault : GoodIn wsX2_levels wsX2_fault := goodIn_r _ [5] (by decide +kernel) (by decide +kernel)
set_option maxRecDepth 20000 in
theorem gX2_levels_X2_fault : GoodIn wsX2_levels (va_wsS RX2 130 yX2_fault wsX2_fault) := goodIn_app (goodIn_of _ (by decide +kernel)) ggX2_levels_X2_fault
set_option maxRecDepth 20000 in
theorem ggX2_levels_X1_isA : GoodIn wsX2_levels wsX1_isA := goodIn_r _ [10, 11, 12, 13, 14, 9, 15, 16, 17, 4, 18, 62, 63, 64, 65, 66] (by decide +kernel) (by decide +kernel)
set_option maxRecDepth 20000 in
theorem gX2_levels_X1_isA : GoodIn wsX2_levels (wsV RX2 58 RX1 yX1_isA wsX1_isA) := goodIn_app (goodIn_of _ (by decide +kernel)) ggX2_levels_X1_isA
set_option maxRecDepth 20000 in
theorem ggX2_levels_X2_levelsTimes : GoodIn wsX2_levels wsX2_levelsTimes := goodIn_r _ [22, 1, 23, 24, 25, 9, 26, 27, 12, 13, 14, 15, 16, 28, 29, 30, 31, 11, 32, 33, 34, 4, 35, 36, 37, 38, 39, 40, 41, 42, 43, 44, 45, 46, 47, 48, 49, 50, 51, 52, 53, 54, 55, 56, 57, 58, 59, 60, 61, 62, 63, 64, 65, 66] (by decide +kernel) (by decide +kernel)
set_option maxRecDepth 20000 in
theorem gX2_levels_X2_levelsTimes : GoodIn wsX2_levels (wsV RX2 198 RX2 yX2_levelsTimes wsX2_levelsTimes) := goodIn_app (goodIn_of _ (by decide +kernel)) ggX2_levels_X2_levelsTimes
theorem dX2_levels_0 : decode cX2_levels 0 = .ok (.iload_n 1, 1) := by decide +kernel
theorem dX2_levels_1 : decode cX2_levels 1 = .ok (.iconst (-1), 1) := by decide +kernel
theorem dX2_levels_2 : decode cX2_levels 2 = .ok (.if_icmp .ne 8, 3) := by decide +kernel
theorem dX2_levels_5 : decode cX2_levels 5 = .ok (.iconst 2, 1) := by decide +kernel
theorem dX2_levels_6 : decode cX2_levels 6 = .ok (.invokestatic 130, 3) := by decide +kernel
theorem dX2_levels_9 : decode cX2_levels 9 = .ok (.ireturn, 1) := by decide +kernel
theorem dX2_levels_10 : decode cX2_levels 10 = .ok (.aload_n 0, 1) := by decide +kernel
theorem dX2_levels_11 : decode cX2_levels 11 = .ok (.getfield 10, 3) := by decide +kernel
theorem dX2_levels_14 : decode cX2_levels 14 = .ok (.iload_n 1, 1) := by decide +kernel
theorem dX2_levels_15 : decode cX2_levels 15 = .ok (.bipush 6, 2) := by decide +kernel
theorem dX2_levels_17 : decode cX2_levels 17 = .ok (.invokevirtual 58, 3) := by decide +kernel
theorem dX2_levels_20 : decode cX2_levels 20 = .ok (.ifCond .ne 21, 3) := by decide +kernel
theorem dX2_levels_23 : decode cX2_levels 23 = .ok (.aload_n 0, 1) := by decide +kernel
theorem dX2_levels_24 : decode cX2_levels 24 = .ok (.getfield 10, 3) := by decide +kernel
theorem dX2_levels_27 : decode cX2_levels 27 = .ok (.iload_n 1, 1) := by decide +kernel
theorem dX2_levels_28 : decode cX2_levels 28 = .ok (.bipush 8, 2) := by decide +kernel
theorem dX2_levels_30 : decode cX2_levels 30 = .ok (.invokevirtual 58, 3) := by decide +kernel
theorem dX2_levels_33 : decode cX2_levels 33 = .ok (.ifCond .ne 8, 3) := by decide +kernel
theorem dX2_levels_36 : decode cX2_levels 36 = .ok (.iconst 1, 1) := by decide +kernel
theorem dX2_levels_37 : decode cX2_levels 37 = .ok (.invokestatic 130, 3) := by decide +kernel
theorem dX2_levels_40 : decode cX2_levels 40 = .ok (.ireturn, 1) := by decide +kernel
theorem dX2_levels_41 : decode cX2_levels 41 = .ok (.aload_n 0, 1) := by decide +kernel
theorem dX2_levels_42 : decode cX2_levels 42 = .ok (.iload_n 1, 1) := by decide +kernel
theorem dX2_levels_43 : decode cX2_levels 43 = .ok (.lconst 1, 1) := by decide +kernel
theorem dX2_levels_44 : decode cX2_levels 44 = .ok (.invokevirtual 198, 3) := by decide +kernel
theorem dX2_levels_47 : decode cX2_levels 47 = .ok (.ireturn, 1) := by decide +kernel
set_option maxRecDepth 20000 in
theorem ggX2_power_X2_fault : GoodIn wsX2_power wsX2_fault := goodIn_r _ [6] (by decide +kernel) (by decide +kernel)
set_option maxRecDepth 20000 in
theorem gX2_power_X2_fault : GoodIn wsX2_power (va_wsS RX2 130 yX2_fault wsX2_fault) := goodIn_app (goodIn_of _ (by decide +kernel)) ggX2_power_X2_fault
set_option maxRecDepth 20000 in
theorem ggX2_power_X1_isA : GoodIn wsX2_power wsX1_isA := goodIn_r _ [11, 12, 13, 14, 15, 10, 16, 17, 18, 5, 19, 69, 70, 71, 72, 73] (by decide +kernel) (by decide +kernel)
set_option maxRecDepth 20000 in
theorem gX2_power_X1_isA : GoodIn wsX2_power (wsV RX2 58 RX1 yX1_isA wsX1_isA) := goodIn_app (goodIn_of _ (by decide +kernel)) ggX2_power_X1_isA
set_option maxRecDepth 20000 in
theorem ggX2_power_X1_levelOf : GoodIn wsX2_power wsX1_levelOf := goodIn_r _ [23, 24, 13, 14, 15, 10, 16, 17, 69, 70, 71, 72, 73] (by decide +kernel) (by decide +kernel)
set_option maxRecDepth 20000 in
theorem gX2_power_X1_levelOf : GoodIn wsX2_power (wsV RX2 61 RX1 yX1_levelOf wsX1_levelOf) := goodIn_app (goodIn_of _ (by decide +kernel)) ggX2_power_X1_levelOf
set_option maxRecDepth 20000 in
theorem ggX2_power_X1_addSingle : GoodIn wsX2_power wsX1_addSingle := goodIn_r _ [28, 29, 30, 31, 10, 32, 17, 12, 33, 24, 34, 35, 5, 36, 37, 38, 39, 40, 41, 42, 43, 44, 45, 46, 47, 48, 49, 69, 70, 71, 72, 73] (by decide +kernel) (by decide +kernel)
set_option maxRecDepth 20000 in
theorem gX2_power_X1_addSingle : GoodIn wsX2_power (wsV RX2 179 RX1 yX1_addSingle wsX1_addSingle) := goodIn_app (goodIn_of _ (by decide +kernel)) ggX2_power_X1_addSingle
set_option maxRecDepth 20000 in
theorem ggX2_power_X2_levelsTimes : GoodIn wsX2_power wsX2_levelsTimes := goodIn_r _ [53, 1, 54, 55, 56, 10, 57, 33, 13, 14, 15, 16, 17, 58, 30, 31, 32, 12, 24, 34, 35, 5, 36, 37, 38, 59, 60, 61, 62, 43, 44, 45, 46, 20, 21, 22, 23, 63, 40, 41, 42, 47, 48, 49, 64, 65, 66, 67, 68, 69, 70, 71, 72, 73] (by decide +kernel) (by decide +kernel)
set_option maxRecDepth 20000 in
theorem gX2_power_X2_levelsTimes : GoodIn wsX2_power (wsV RX2 198 RX2 yX2_levelsTimes wsX2_levelsTimes) := goodIn_app (goodIn_of _ (by decide +kernel)) ggX2_power_X2_levelsTimes
theorem dX2_power_0 : decode cX2_power 0 = .ok (.iload_n 1, 1) := by decide +kernel
theorem dX2_power_1 : decode cX2_power 1 = .ok (.iconst (-1), 1) := by decide +kernel
theorem dX2_power_2 : decode cX2_power 2 = .ok (.if_icmp .ne 8, 3) := by decide +kernel
theorem dX2_power_5 : decode cX2_power 5 = .ok (.iconst 2, 1) := by decide +kernel
theorem dX2_power_6 : decode cX2_power 6 = .ok (.invokestatic 130, 3) := by decide +kernel
theorem dX2_power_9 : decode cX2_power 9 = .ok (.ireturn, 1) := by decide +kernel
theorem dX2_power_10 : decode cX2_power 10 = .ok (.aload_n 0, 1) := by decide +kernel
theorem dX2_power_11 : decode cX2_power 11 = .ok (.getfield 10, 3) := by decide +kernel
theorem dX2_power_14 : decode cX2_power 14 = .ok (.iload_n 1, 1) := by decide +kernel
theorem dX2_power_15 : decode cX2_power 15 = .ok (.bipush 11, 2) := by decide +kernel
theorem dX2_power_17 : decode cX2_power 17 = .ok (.invokevirtual 58, 3) := by decide +kernel
theorem dX2_power_20 : decode cX2_power 20 = .ok (.ifCond .eq 25, 3) := by decide +kernel
theorem dX2_power_23 : decode cX2_power 23 = .ok (.aload_n 0, 1) := by decide +kernel
theorem dX2_power_24 : decode cX2_power 24 = .ok (.getfield 10, 3) := by decide +kernel
theorem dX2_power_27 : decode cX2_power 27 = .ok (.iconst 1, 1) := by decide +kernel
theorem dX2_power_28 : decode cX2_power 28 = .ok (.ldc2_w 201, 3) := by decide +kernel
theorem dX2_power_31 : decode cX2_power 31 = .ok (.aload_n 0, 1) := by decide +kernel
theorem dX2_power_32 : decode cX2_power 32 = .ok (.getfield 10, 3) := by decide +kernel
theorem dX2_power_35 : decode cX2_power 35 = .ok (.iload_n 1, 1) := by decide +kernel
theorem dX2_power_36 : decode cX2_power 36 = .ok (.invokevirtual 61, 3) := by decide +kernel
theorem dX2_power_39 : decode cX2_power 39 = .ok (.i2l, 1) := by decide +kernel
theorem dX2_power_40 : decode cX2_power 40 = .ok (.lmul, 1) := by decide +kernel
theorem dX2_power_41 : decode cX2_power 41 = .ok (.invokevirtual 179, 3) := by decide +kernel
theorem dX2_power_44 : decode cX2_power 44 = .ok (.ireturn, 1) := by decide +kernel
theorem dX2_power_45 : decode cX2_power 45 = .ok (.aload_n 0, 1) := by decide +kernel
theorem dX2_power_46 : decode cX2_power 46 = .ok (.getfield 10, 3) := by decide +kernel
theorem dX2_power_49 : decode cX2_power 49 = .ok (.iload_n 1, 1) := by decide +kernel
theorem dX2_power_50 : decode cX2_power 50 = .ok (.bipush 8, 2) := by decide +kernel
theorem dX2_power_52 : decode cX2_power 52 = .ok (.invokevirtual 58, 3) := by decide +kernel
theorem dX2_power_55 : decode cX2_power 55 = .ok (.ifCond .eq 14, 3) := by decide +kernel
theorem dX2_power_58 : decode cX2_power 58 = .ok (.aload_n 0, 1) := by decide +kernel
theorem dX2_power_59 : decode cX2_power 59 = .ok (.iload_n 1, 1) := by decide +kernel
theorem dX2_power_60 : decode cX2_power 60 = .ok (.ldc2_w 201, 3) := by decide +kernel
theorem dX2_power_63 : decode cX2_power 63 = .ok (.invokevirtual 198, 3) := by decide +kernel
theorem dX2_power_66 : decode cX2_power 66 = .ok (.goto 7, 3) := by decide +kernel
theorem dX2_power_69 : decode cX2_power 69 = .ok (.iconst 1, 1) := by decide +kernel
theorem dX2_power_70 : decode cX2_power 70 = .ok (.invokestatic 130, 3) := by decide +kernel
theorem dX2_power_73 : decode cX2_power 73 = .ok (.ireturn, 1) := by decide +kernel
set_option maxRecDepth 20000 in
theorem ggX2_levelsTimes_X1_lengthOf : GoodIn wsX2_levelsTimes wsX1_lengthOf := goodIn_r _ [6, 7, 8, 9, 10, 5, 11, 12, 49, 50, 51, 52, 53] (by decide +kernel) (by decide +kernel)
set_option maxRecDepth 20000 in
theorem gX2_levelsTimes_X1_lengthOf : GoodIn wsX2_levelsTimes (wsV RX2 116 RX1 yX1_lengthOf wsX1_lengthOf) := goodIn_app (goodIn_of _ (by decide +kernel)) ggX2_levelsTimes_X1_lengthOf
set_option maxRecDepth 20000 in
theorem ggX2_levelsTimes_X1_add : GoodIn wsX2_levelsTimes wsX1_add := goodIn_r _ [16, 12, 17, 7, 18, 19, 20, 21, 22, 23, 24, 49, 50, 51, 52, 53] (by decide +kernel) (by decide +kernel)
set_option maxRecDepth 20000 in
theorem gX2_levelsTimes_X1_add : GoodIn wsX2_levelsTimes (wsV RX2 37 RX1 yX1_add wsX1_add) := goodIn_app (goodIn_of _ (by decide +kernel)) ggX2_levelsTimes_X1_add
set_option maxRecDepth 20000 in
theorem ggX2_levelsTimes_X1_placed : GoodIn wsX2_levelsTimes wsX1_placed := goodIn_r _ [28, 19, 29, 30, 31, 5, 32, 12, 7, 49, 50, 51, 52, 53] (by decide +kernel) (by decide +kernel)
set_option maxRecDepth 20000 in
theorem gX2_levelsTimes_X1_placed : GoodIn wsX2_levelsTimes (wsV RX2 183 RX1 yX1_placed wsX1_placed) := goodIn_app (goodIn_of _ (by decide +kernel)) ggX2_levelsTimes_X1_placed
set_option maxRecDepth 20000 in
theorem ggX2_levelsTimes_X1_levelOf : GoodIn wsX2_levelsTimes wsX1_levelOf := goodIn_r _ [36, 18, 8, 9, 10, 5, 11, 12, 49, 50, 51, 52, 53] (by decide +kernel) (by decide +kernel)
set_option maxRecDepth 20000 in
theorem gX2_levelsTimes_X1_levelOf : GoodIn wsX2_levelsTimes (wsV RX2 61 RX1 yX1_levelOf wsX1_levelOf) := goodIn_app (goodIn_of _ (by decide +kernel)) ggX2_levelsTimes_X1_levelOf
set_option maxRecDepth 20000 in
theorem ggX2_levelsTimes_X1_put : GoodIn wsX2_levelsTimes wsX1_put := goodIn_r _ [40, 19, 17, 29, 30, 31, 5, 32, 12, 7, 41, 42, 43, 49, 50, 51, 52, 53] (by decide +kernel) (by decide +kernel)
set_option maxRecDepth 20000 in
theorem gX2_levelsTimes_X1_put : GoodIn wsX2_levelsTimes (wsV RX2 54 RX1 yX1_put wsX1_put) := goodIn_app (goodIn_of _ (by decide +kernel)) ggX2_levelsTimes_X1_put
theorem dX2_levelsTimes_0 : decode cX2_levelsTimes 0 = .ok (.aload_n 0, 1) := by decide +kernel
theorem dX2_levelsTimes_1 : decode cX2_levelsTimes 1 = .ok (.getfield 10, 3) := by decide +kernel
theorem dX2_levelsTimes_4 : decode cX2_levelsTimes 4 = .ok (.iload_n 1, 1) := by decide +kernel
theorem dX2_levelsTimes_5 : decode cX2_levelsTimes 5 = .ok (.invokevirtual 116, 3) := by decide +kernel
theorem dX2_levelsTimes_8 : decode cX2_levelsTimes 8 = .ok (.istore 4, 2) := by decide +kernel
theorem dX2_levelsTimes_10 : decode cX2_levelsTimes 10 = .ok (.aload_n 0, 1) := by decide +kernel
theorem dX2_levelsTimes_11 : decode cX2_levelsTimes 11 = .ok (.getfield 10, 3) := by decide +kernel
theorem dX2_levelsTimes_14 : decode cX2_levelsTimes 14 = .ok (.iconst 1, 1) := by decide +kernel
theorem dX2_levelsTimes_15 : decode cX2_levelsTimes 15 = .ok (.iload 4, 2) := by decide +kernel
theorem dX2_levelsTimes_17 : decode cX2_levelsTimes 17 = .ok (.invokevirtual 37, 3) := by decide +kernel
theorem dX2_levelsTimes_20 : decode cX2_levelsTimes 20 = .ok (.istore 5, 2) := by decide +kernel
theorem dX2_levelsTimes_22 : decode cX2_levelsTimes 22 = .ok (.iconst 0, 1) := by decide +kernel
theorem dX2_levelsTimes_23 : decode cX2_levelsTimes 23 = .ok (.istore 6, 2) := by decide +kernel
theorem dX2_levelsTimes_25 : decode cX2_levelsTimes 25 = .ok (.iload 6, 2) := by decide +kernel
theorem dX2_levelsTimes_27 : decode cX2_levelsTimes 27 = .ok (.iload 4, 2) := by decide +kernel
theorem dX2_levelsTimes_29 : decode cX2_levelsTimes 29 = .ok (.if_icmp .ge 40, 3) := by decide +kernel
theorem dX2_levelsTimes_32 : decode cX2_levelsTimes 32 = .ok (.aload_n 0, 1) := by decide +kernel
theorem dX2_levelsTimes_33 : decode cX2_levelsTimes 33 = .ok (.getfield 10, 3) := by decide +kernel
theorem dX2_levelsTimes_36 : decode cX2_levelsTimes 36 = .ok (.iload 5, 2) := by decide +kernel
theorem dX2_levelsTimes_38 : decode cX2_levelsTimes 38 = .ok (.iload 6, 2) := by decide +kernel
theorem dX2_levelsTimes_40 : decode cX2_levelsTimes 40 = .ok (.lload_n 2, 1) := by decide +kernel
theorem dX2_levelsTimes_41 : decode cX2_levelsTimes 41 = .ok (.aload_n 0, 1) := by decide +kernel
theorem dX2_levelsTimes_42 : decode cX2_levelsTimes 42 = .ok (.getfield 10, 3) := by decide +kernel
theorem dX2_levelsTimes_45 : decode cX2_levelsTimes 45 = .ok (.aload_n 0, 1) := by decide +kernel
theorem dX2_levelsTimes_46 : decode cX2_levelsTimes 46 = .ok (.getfield 10, 3) := by decide +kernel
theorem dX2_levelsTimes_49 : decode cX2_levelsTimes 49 = .ok (.iload_n 1, 1) := by decide +kernel
theorem dX2_levelsTimes_50 : decode cX2_levelsTimes 50 = .ok (.iload 6, 2) := by decide +kernel
theorem dX2_levelsTimes_52 : decode cX2_levelsTimes 52 = .ok (.invokevirtual 183, 3) := by decide +kernel
theorem dX2_levelsTimes_55 : decode cX2_levelsTimes 55 = .ok (.invokevirtual 61, 3) := by decide +kernel
theorem dX2_levelsTimes_58 : decode cX2_levelsTimes 58 = .ok (.i2l, 1) := by decide +kernel
theorem dX2_levelsTimes_59 : decode cX2_levelsTimes 59 = .ok (.lmul, 1) := by decide +kernel
theorem dX2_levelsTimes_60 : decode cX2_levelsTimes 60 = .ok (.invokevirtual 54, 3) := by decide +kernel
theorem dX2_levelsTimes_63 : decode cX2_levelsTimes 63 = .ok (.iinc 6 1, 3) := by decide +kernel
theorem dX2_levelsTimes_66 : decode cX2_levelsTimes 66 = .ok (.goto (-41), 3) := by decide +kernel
theorem dX2_levelsTimes_69 : decode cX2_levelsTimes 69 = .ok (.iload 5, 2) := by decide +kernel
theorem dX2_levelsTimes_71 : decode cX2_levelsTimes 71 = .ok (.ireturn, 1) := by decide +kernel
set_option maxRecDepth 20000 in
theorem ggX2_drive_X2_fault : GoodIn wsX2_drive wsX2_fault := goodIn_r _ [5] (by decide +kernel) (by decide +kernel)
set_option maxRecDepth 20000 in
theorem gX2_drive_X2_fault : GoodIn wsX2_drive (va_wsS RX2 130 yX2_fault wsX2_fault) := goodIn_app (goodIn_of _ (by decide +kernel)) ggX2_drive_X2_fault
set_option maxRecDepth 20000 in
theorem ggX2_drive_X1_isA : GoodIn wsX2_drive wsX1_isA := goodIn_r _ [10, 11, 12, 13, 14, 9, 15, 16, 17, 4, 18, 63, 64, 65, 66, 67] (by decide +kernel) (by decide +kernel)
set_option maxRecDepth 20000 in
theorem gX2_drive_X1_isA : GoodIn wsX2_drive (wsV RX2 58 RX1 yX1_isA wsX1_isA) := goodIn_app (goodIn_of _ (by decide +kernel)) ggX2_drive_X1_isA
set_option maxRecDepth 20000 in
theorem ggX2_drive_X1_lengthOf : GoodIn wsX2_drive wsX1_lengthOf := goodIn_r _ [22, 23, 12, 13, 14, 9, 15, 16, 63, 64, 65, 66, 67] (by decide +kernel) (by decide +kernel)
set_option maxRecDepth 20000 in
theorem gX2_drive_X1_lengthOf : GoodIn wsX2_drive (wsV RX2 116 RX1 yX1_lengthOf wsX1_lengthOf) := goodIn_app (goodIn_of _ (by decide +kernel)) ggX2_drive_X1_lengthOf
set_option maxRecDepth 20000 in
theorem ggX2_drive_X1_made : GoodIn wsX2_drive wsX1_made := goodIn_r _ [27, 16, 63, 64, 65, 66, 67] (by decide +kernel) (by decide +kernel)
set_option maxRecDepth 20000 in
theorem gX2_drive_X1_made : GoodIn wsX2_drive (wsV RX2 117 RX1 yX1_made wsX1_made) := goodIn_app (goodIn_of _ (by decide +kernel)) ggX2_drive_X1_made
set_option maxRecDepth 20000 in
theorem ggX2_drive_X1_cellOf : GoodIn wsX2_drive wsX1_cellOf := goodIn_r _ [31, 32, 33, 34, 35, 9, 36, 16, 23, 63, 64, 65, 66, 67] (by decide +kernel) (by decide +kernel)
set_option maxRecDepth 20000 in
theorem gX2_drive_X1_cellOf : GoodIn wsX2_drive (wsV RX2 65 RX1 yX1_cellOf wsX1_cellOf) := goodIn_app (goodIn_of _ (by decide +kernel)) ggX2_drive_X1_cellOf
set_option maxRecDepth 20000 in
theorem ggX2_drive_X1_addWire : GoodIn wsX2_drive wsX1_addWire := goodIn_r _ [40, 41, 42, 43, 44, 9, 45, 16, 11, 23, 32, 46, 4, 47, 48, 49, 12, 13, 14, 15, 63, 64, 65, 66, 67] (by decide +kernel) (by decide +kernel)
set_option maxRecDepth 20000 in
theorem gX2_drive_X1_addWire : GoodIn wsX2_drive (wsV RX2 44 RX1 yX1_addWire wsX1_addWire) := goodIn_app (goodIn_of _ (by decide +kernel)) ggX2_drive_X1_addWire
set_option maxRecDepth 20000 in
theorem ggX2_drive_X1_add : GoodIn wsX2_drive wsX1_add := goodIn_r _ [45, 16, 11, 23, 41, 32, 46, 4, 47, 48, 49, 63, 64, 65, 66, 67] (by decide +kernel) (by decide +kernel)
set_option maxRecDepth 20000 in
theorem gX2_drive_X1_add : GoodIn wsX2_drive (wsV RX2 37 RX1 yX1_add wsX1_add) := goodIn_app (goodIn_of _ (by decide +kernel)) ggX2_drive_X1_add
set_option maxRecDepth 20000 in
theorem ggX2_drive_X1_put : GoodIn wsX2_drive wsX1_put := goodIn_r _ [54, 32, 11, 33, 34, 35, 9, 36, 16, 23, 55, 56, 57, 63, 64, 65, 66, 67] (by decide +kernel) (by decide +kernel)
set_option maxRecDepth 20000 in
theorem gX2_drive_X1_put : GoodIn wsX2_drive (wsV RX2 54 RX1 yX1_put wsX1_put) := goodIn_app (goodIn_of _ (by decide +kernel)) ggX2_drive_X1_put
theorem dX2_drive_0 : decode cX2_drive 0 = .ok (.iload_n 1, 1) := by decide +kernel
theorem dX2_drive_1 : decode cX2_drive 1 = .ok (.iconst (-1), 1) := by decide +kernel
theorem dX2_drive_2 : decode cX2_drive 2 = .ok (.if_icmp .ne 8, 3) := by decide +kernel
theorem dX2_drive_5 : decode cX2_drive 5 = .ok (.iconst 2, 1) := by decide +kernel
theorem dX2_drive_6 : decode cX2_drive 6 = .ok (.invokestatic 130, 3) := by decide +kernel
theorem dX2_drive_9 : decode cX2_drive 9 = .ok (.ireturn, 1) := by decide +kernel
theorem dX2_drive_10 : decode cX2_drive 10 = .ok (.aload_n 0, 1) := by decide +kernel
theorem dX2_drive_11 : decode cX2_drive 11 = .ok (.getfield 10, 3) := by decide +kernel
theorem dX2_drive_14 : decode cX2_drive 14 = .ok (.iload_n 1, 1) := by decide +kernel
theorem dX2_drive_15 : decode cX2_drive 15 = .ok (.iconst 1, 1) := by decide +kernel
theorem dX2_drive_16 : decode cX2_drive 16 = .ok (.invokevirtual 58, 3) := by decide +kernel
theorem dX2_drive_19 : decode cX2_drive 19 = .ok (.ifCond .ne 8, 3) := by decide +kernel
theorem dX2_drive_22 : decode cX2_drive 22 = .ok (.iconst 1, 1) := by decide +kernel
theorem dX2_drive_23 : decode cX2_drive 23 = .ok (.invokestatic 130, 3) := by decide +kernel
theorem dX2_drive_26 : decode cX2_drive 26 = .ok (.ireturn, 1) := by decide +kernel
theorem dX2_drive_27 : decode cX2_drive 27 = .ok (.aload_n 0, 1) := by decide +kernel
theorem dX2_drive_28 : decode cX2_drive 28 = .ok (.getfield 10, 3) := by decide +kernel
theorem dX2_drive_31 : decode cX2_drive 31 = .ok (.iload_n 1, 1) := by decide +kernel
theorem dX2_drive_32 : decode cX2_drive 32 = .ok (.invokevirtual 116, 3) := by decide +kernel
theorem dX2_drive_35 : decode cX2_drive 35 = .ok (.istore_n 3, 1) := by decide +kernel
theorem dX2_drive_36 : decode cX2_drive 36 = .ok (.aload_n 0, 1) := by decide +kernel
theorem dX2_drive_37 : decode cX2_drive 37 = .ok (.getfield 10, 3) := by decide +kernel
theorem dX2_drive_40 : decode cX2_drive 40 = .ok (.invokevirtual 117, 3) := by decide +kernel
theorem dX2_drive_43 : decode cX2_drive 43 = .ok (.istore 4, 2) := by decide +kernel
theorem dX2_drive_45 : decode cX2_drive 45 = .ok (.iconst 0, 1) := by decide +kernel
theorem dX2_drive_46 : decode cX2_drive 46 = .ok (.istore 5, 2) := by decide +kernel
theorem dX2_drive_48 : decode cX2_drive 48 = .ok (.iload 5, 2) := by decide +kernel
theorem dX2_drive_50 : decode cX2_drive 50 = .ok (.iload_n 3, 1) := by decide +kernel
theorem dX2_drive_51 : decode cX2_drive 51 = .ok (.if_icmp .ge 37, 3) := by decide +kernel
theorem dX2_drive_54 : decode cX2_drive 54 = .ok (.aload_n 0, 1) := by decide +kernel
theorem dX2_drive_55 : decode cX2_drive 55 = .ok (.getfield 10, 3) := by decide +kernel
theorem dX2_drive_58 : decode cX2_drive 58 = .ok (.iload_n 2, 1) := by decide +kernel
theorem dX2_drive_59 : decode cX2_drive 59 = .ok (.ifCond .eq 7, 3) := by decide +kernel
theorem dX2_drive_62 : decode cX2_drive 62 = .ok (.iconst 5, 1) := by decide +kernel
theorem dX2_drive_63 : decode cX2_drive 63 = .ok (.goto 4, 3) := by decide +kernel
theorem dX2_drive_66 : decode cX2_drive 66 = .ok (.iconst 4, 1) := by decide +kernel
theorem dX2_drive_67 : decode cX2_drive 67 = .ok (.aload_n 0, 1) := by decide +kernel
theorem dX2_drive_68 : decode cX2_drive 68 = .ok (.getfield 10, 3) := by decide +kernel
theorem dX2_drive_71 : decode cX2_drive 71 = .ok (.iload_n 1, 1) := by decide +kernel
theorem dX2_drive_72 : decode cX2_drive 72 = .ok (.iload 5, 2) := by decide +kernel
theorem dX2_drive_74 : decode cX2_drive 74 = .ok (.invokevirtual 65, 3) := by decide +kernel
theorem dX2_drive_77 : decode cX2_drive 77 = .ok (.l2i, 1) := by decide +kernel
theorem dX2_drive_78 : decode cX2_drive 78 = .ok (.invokevirtual 44, 3) := by decide +kernel
theorem dX2_drive_81 : decode cX2_drive 81 = .ok (.pop, 1) := by decide +kernel
theorem dX2_drive_82 : decode cX2_drive 82 = .ok (.iinc 5 1, 3) := by decide +kernel
theorem dX2_drive_85 : decode cX2_drive 85 = .ok (.goto (-37), 3) := by decide +kernel
theorem dX2_drive_88 : decode cX2_drive 88 = .ok (.aload_n 0, 1) := by decide +kernel
theorem dX2_drive_89 : decode cX2_drive 89 = .ok (.getfield 10, 3) := by decide +kernel
theorem dX2_drive_92 : decode cX2_drive 92 = .ok (.iload_n 2, 1) := by decide +kernel
theorem dX2_drive_93 : decode cX2_drive 93 = .ok (.ifCond .eq 8, 3) := by decide +kernel
theorem dX2_drive_96 : decode cX2_drive 96 = .ok (.bipush 7, 2) := by decide +kernel
theorem dX2_drive_98 : decode cX2_drive 98 = .ok (.goto 5, 3) := by decide +kernel
theorem dX2_drive_101 : decode cX2_drive 101 = .ok (.bipush 6, 2) := by decide +kernel
theorem dX2_drive_103 : decode cX2_drive 103 = .ok (.iload_n 3, 1) := by decide +kernel
theorem dX2_drive_104 : decode cX2_drive 104 = .ok (.invokevirtual 37, 3) := by decide +kernel
theorem dX2_drive_107 : decode cX2_drive 107 = .ok (.istore 5, 2) := by decide +kernel
theorem dX2_drive_109 : decode cX2_drive 109 = .ok (.iconst 0, 1) := by decide +kernel
theorem dX2_drive_110 : decode cX2_drive 110 = .ok (.istore 6, 2) := by decide +kernel
theorem dX2_drive_112 : decode cX2_drive 112 = .ok (.iload 6, 2) := by decide +kernel
theorem dX2_drive_114 : decode cX2_drive 114 = .ok (.iload_n 3, 1) := by decide +kernel
theorem dX2_drive_115 : decode cX2_drive 115 = .ok (.if_icmp .ge 26, 3) := by decide +kernel
theorem dX2_drive_118 : decode cX2_drive 118 = .ok (.aload_n 0, 1) := by decide +kernel
theorem dX2_drive_119 : decode cX2_drive 119 = .ok (.getfield 10, 3) := by decide +kernel
theorem dX2_drive_122 : decode cX2_drive 122 = .ok (.iload 5, 2) := by decide +kernel
theorem dX2_drive_124 : decode cX2_drive 124 = .ok (.iload 6, 2) := by decide +kernel
theorem dX2_drive_126 : decode cX2_drive 126 = .ok (.iload 4, 2) := by decide +kernel
theorem dX2_drive_128 : decode cX2_drive 128 = .ok (.iload 6, 2) := by decide +kernel
theorem dX2_drive_130 : decode cX2_drive 130 = .ok (.iadd, 1) := by decide +kernel
theorem dX2_drive_131 : decode cX2_drive 131 = .ok (.i2l, 1) := by decide +kernel
theorem dX2_drive_132 : decode cX2_drive 132 = .ok (.invokevirtual 54, 3) := by decide +kernel
theorem dX2_drive_135 : decode cX2_drive 135 = .ok (.iinc 6 1, 3) := by decide +kernel
theorem dX2_drive_138 : decode cX2_drive 138 = .ok (.goto (-26), 3) := by decide +kernel
theorem dX2_drive_141 : decode cX2_drive 141 = .ok (.iload 5, 2) := by decide +kernel
theorem dX2_drive_143 : decode cX2_drive 143 = .ok (.ireturn, 1) := by decide +kernel
set_option maxRecDepth 20000 in
theorem ggX2_pair_X2_isNoneOr : GoodIn wsX2_pair wsX2_isNoneOr := goodIn_r _ [6, 1, 7, 8, 9, 10, 11, 12, 13, 14, 15, 16, 17, 18, 5, 19, 45, 46, 47, 48, 49, 50, 51, 52, 53, 54] (by decide +kernel) (by decide +kernel)
set_option maxRecDepth 20000 in
theorem gX2_pair_X2_isNoneOr : GoodIn wsX2_pair (wsV RX2 192 RX2 yX2_isNoneOr wsX2_isNoneOr) := goodIn_app (goodIn_of _ (by decide +kernel)) ggX2_pair_X2_isNoneOr
set_option maxRecDepth 20000 in
theorem ggX2_pair_X2_fault : GoodIn wsX2_pair wsX2_fault := goodIn_r _ [22] (by decide +kernel) (by decide +kernel)
set_option maxRecDepth 20000 in
theorem gX2_pair_X2_fault : GoodIn wsX2_pair (va_wsS RX2 130 yX2_fault wsX2_fault) := goodIn_app (goodIn_of _ (by decide +kernel)) ggX2_pair_X2_fault
set_option maxRecDepth 20000 in
theorem ggX2_pair_X1_add : GoodIn wsX2_pair wsX1_add := goodIn_r _ [26, 17, 12, 27, 28, 29, 30, 5, 31, 32, 33, 50, 51, 52, 53, 54] (by decide +kernel) (by decide +kernel)
set_option maxRecDepth 20000 in
theorem gX2_pair_X1_add : GoodIn wsX2_pair (wsV RX2 37 RX1 yX1_add wsX1_add) := goodIn_app (goodIn_of _ (by decide +kernel)) ggX2_pair_X1_add
set_option maxRecDepth 20000 in
theorem ggX2_pair_X1_put : GoodIn wsX2_pair wsX1_put := goodIn_r _ [37, 29, 12, 38, 39, 40, 10, 41, 17, 27, 42, 43, 44, 50, 51, 52, 53, 54] (by decide +kernel) (by decide +kernel)
set_option maxRecDepth 20000 in
theorem gX2_pair_X1_put : GoodIn wsX2_pair (wsV RX2 54 RX1 yX1_put wsX1_put) := goodIn_app (goodIn_of _ (by decide +kernel)) ggX2_pair_X1_put
theorem dX2_pair_0 : decode cX2_pair 0 = .ok (.iload_n 3, 1) := by decide +kernel
theorem dX2_pair_1 : decode cX2_pair 1 = .ok (.ifCond .eq 8, 3) := by decide +kernel
theorem dX2_pair_4 : decode cX2_pair 4 = .ok (.bipush 7, 2) := by decide +kernel
theorem dX2_pair_6 : decode cX2_pair 6 = .ok (.goto 5, 3) := by decide +kernel
theorem dX2_pair_9 : decode cX2_pair 9 = .ok (.bipush 6, 2) := by decide +kernel
theorem dX2_pair_11 : decode cX2_pair 11 = .ok (.istore 4, 2) := by decide +kernel
theorem dX2_pair_13 : decode cX2_pair 13 = .ok (.aload_n 0, 1) := by decide +kernel
theorem dX2_pair_14 : decode cX2_pair 14 = .ok (.iload_n 1, 1) := by decide +kernel
theorem dX2_pair_15 : decode cX2_pair 15 = .ok (.iload 4, 2) := by decide +kernel
theorem dX2_pair_17 : decode cX2_pair 17 = .ok (.invokevirtual 192, 3) := by decide +kernel
theorem dX2_pair_20 : decode cX2_pair 20 = .ok (.ifCond .eq 13, 3) := by decide +kernel
theorem dX2_pair_23 : decode cX2_pair 23 = .ok (.aload_n 0, 1) := by decide +kernel
theorem dX2_pair_24 : decode cX2_pair 24 = .ok (.iload_n 2, 1) := by decide +kernel
theorem dX2_pair_25 : decode cX2_pair 25 = .ok (.iload 4, 2) := by decide +kernel
theorem dX2_pair_27 : decode cX2_pair 27 = .ok (.invokevirtual 192, 3) := by decide +kernel
theorem dX2_pair_30 : decode cX2_pair 30 = .ok (.ifCond .ne 8, 3) := by decide +kernel
theorem dX2_pair_33 : decode cX2_pair 33 = .ok (.iconst 1, 1) := by decide +kernel
theorem dX2_pair_34 : decode cX2_pair 34 = .ok (.invokestatic 130, 3) := by decide +kernel
theorem dX2_pair_37 : decode cX2_pair 37 = .ok (.ireturn, 1) := by decide +kernel
theorem dX2_pair_38 : decode cX2_pair 38 = .ok (.iload_n 1, 1) := by decide +kernel
theorem dX2_pair_39 : decode cX2_pair 39 = .ok (.iconst (-1), 1) := by decide +kernel
theorem dX2_pair_40 : decode cX2_pair 40 = .ok (.if_icmp .eq 8, 3) := by decide +kernel
theorem dX2_pair_43 : decode cX2_pair 43 = .ok (.iload_n 2, 1) := by decide +kernel
theorem dX2_pair_44 : decode cX2_pair 44 = .ok (.iconst (-1), 1) := by decide +kernel
theorem dX2_pair_45 : decode cX2_pair 45 = .ok (.if_icmp .ne 8, 3) := by decide +kernel
theorem dX2_pair_48 : decode cX2_pair 48 = .ok (.iconst 2, 1) := by decide +kernel
theorem dX2_pair_49 : decode cX2_pair 49 = .ok (.invokestatic 130, 3) := by decide +kernel
theorem dX2_pair_52 : decode cX2_pair 52 = .ok (.ireturn, 1) := by decide +kernel
theorem dX2_pair_53 : decode cX2_pair 53 = .ok (.aload_n 0, 1) := by decide +kernel
theorem dX2_pair_54 : decode cX2_pair 54 = .ok (.getfield 10, 3) := by decide +kernel
theorem dX2_pair_57 : decode cX2_pair 57 = .ok (.iload_n 3, 1) := by decide +kernel
theorem dX2_pair_58 : decode cX2_pair 58 = .ok (.ifCond .eq 8, 3) := by decide +kernel
theorem dX2_pair_61 : decode cX2_pair 61 = .ok (.bipush 10, 2) := by decide +kernel
theorem dX2_pair_63 : decode cX2_pair 63 = .ok (.goto 5, 3) := by decide +kernel
theorem dX2_pair_66 : decode cX2_pair 66 = .ok (.bipush 9, 2) := by decide +kernel
theorem dX2_pair_68 : decode cX2_pair 68 = .ok (.iconst 2, 1) := by decide +kernel
theorem dX2_pair_69 : decode cX2_pair 69 = .ok (.invokevirtual 37, 3) := by decide +kernel
theorem dX2_pair_72 : decode cX2_pair 72 = .ok (.istore 5, 2) := by decide +kernel
theorem dX2_pair_74 : decode cX2_pair 74 = .ok (.aload_n 0, 1) := by decide +kernel
theorem dX2_pair_75 : decode cX2_pair 75 = .ok (.getfield 10, 3) := by decide +kernel
theorem dX2_pair_78 : decode cX2_pair 78 = .ok (.iload 5, 2) := by decide +kernel
theorem dX2_pair_80 : decode cX2_pair 80 = .ok (.iconst 0, 1) := by decide +kernel
theorem dX2_pair_81 : decode cX2_pair 81 = .ok (.iload_n 1, 1) := by decide +kernel
theorem dX2_pair_82 : decode cX2_pair 82 = .ok (.i2l, 1) := by decide +kernel
theorem dX2_pair_83 : decode cX2_pair 83 = .ok (.invokevirtual 54, 3) := by decide +kernel
theorem dX2_pair_86 : decode cX2_pair 86 = .ok (.aload_n 0, 1) := by decide +kernel
theorem dX2_pair_87 : decode cX2_pair 87 = .ok (.getfield 10, 3) := by decide +kernel
theorem dX2_pair_90 : decode cX2_pair 90 = .ok (.iload 5, 2) := by decide +kernel
