theorem dX2_pair_92 : decode cX2_pair 92 = .ok (.iconst 1, 1) := by decide +kernel
theorem dX2_pair_93 : decode cX2_pair 93 = .ok (.iload_n 2, 1) := by decide +kernel
theorem dX2_pair_94 : decode cX2_pair 94 = .ok (.i2l, 1) := by decide +kernel
theorem dX2_pair_95 : decode cX2_pair 95 = .ok (.invokevirtual 54, 3) := by decide +kernel
theorem dX2_pair_98 : decode cX2_pair 98 = .ok (.iload 5, 2) := by decide +kernel
theorem dX2_pair_100 : decode cX2_pair 100 = .ok (.ireturn, 1) := by decide +kernel
set_option maxRecDepth 20000 in
theorem ggX2_join_X1_isNumbers : GoodIn wsX2_join wsX1_isNumbers := goodIn_r _ [6, 7, 8, 9, 10, 5, 11, 12, 79, 80, 81, 82, 83] (by decide +kernel) (by decide +kernel)
set_option maxRecDepth 20000 in
theorem gX2_join_X1_isNumbers : GoodIn wsX2_join (wsV RX2 47 RX1 yX1_isNumbers wsX1_isNumbers) := goodIn_app (goodIn_of _ (by decide +kernel)) ggX2_join_X1_isNumbers
set_option maxRecDepth 20000 in
theorem ggX2_join_X1_formOf : GoodIn wsX2_join wsX1_formOf := goodIn_r _ [16, 7, 8, 9, 10, 5, 11, 12, 79, 80, 81, 82, 83] (by decide +kernel) (by decide +kernel)
set_option maxRecDepth 20000 in
theorem gX2_join_X1_formOf : GoodIn wsX2_join (wsV RX2 110 RX1 yX1_formOf wsX1_formOf) := goodIn_app (goodIn_of _ (by decide +kernel)) ggX2_join_X1_formOf
set_option maxRecDepth 20000 in
theorem ggX2_join_X2_isNoneOr : GoodIn wsX2_join wsX2_isNoneOr := goodIn_r _ [21, 1, 22, 23, 24, 5, 25, 7, 8, 9, 10, 11, 12, 26, 20, 27, 74, 75, 76, 77, 78, 79, 80, 81, 82, 83] (by decide +kernel) (by decide +kernel)
set_option maxRecDepth 20000 in
theorem gX2_join_X2_isNoneOr : GoodIn wsX2_join (wsV RX2 192 RX2 yX2_isNoneOr wsX2_isNoneOr) := goodIn_app (goodIn_of _ (by decide +kernel)) ggX2_join_X2_isNoneOr
set_option maxRecDepth 20000 in
theorem ggX2_join_X2_fault : GoodIn wsX2_join wsX2_fault := goodIn_r _ [30] (by decide +kernel) (by decide +kernel)
set_option maxRecDepth 20000 in
theorem gX2_join_X2_fault : GoodIn wsX2_join (va_wsS RX2 130 yX2_fault wsX2_fault) := goodIn_app (goodIn_of _ (by decide +kernel)) ggX2_join_X2_fault
set_option maxRecDepth 20000 in
theorem ggX2_join_X1_lengthOf : GoodIn wsX2_join wsX1_lengthOf := goodIn_r _ [34, 35, 8, 9, 10, 5, 11, 12, 79, 80, 81, 82, 83] (by decide +kernel) (by decide +kernel)
set_option maxRecDepth 20000 in
theorem gX2_join_X1_lengthOf : GoodIn wsX2_join (wsV RX2 116 RX1 yX1_lengthOf wsX1_lengthOf) := goodIn_app (goodIn_of _ (by decide +kernel)) ggX2_join_X1_lengthOf
set_option maxRecDepth 20000 in
theorem ggX2_join_X2_holdsOnlyLives : GoodIn wsX2_join wsX2_holdsOnlyLives := goodIn_r _ [39, 1, 31, 32, 33, 5, 34, 35, 8, 9, 10, 11, 12, 40, 41, 42, 43, 44, 45, 46, 47, 48, 17, 18, 19, 20, 21, 22, 23, 24, 25, 7, 26, 27, 74, 75, 76, 77, 78, 79, 80, 81, 82, 83] (by decide +kernel) (by decide +kernel)
set_option maxRecDepth 20000 in
theorem gX2_join_X2_holdsOnlyLives : GoodIn wsX2_join (wsV RX2 203 RX2 yX2_holdsOnlyLives wsX2_holdsOnlyLives) := goodIn_app (goodIn_of _ (by decide +kernel)) ggX2_join_X2_holdsOnlyLives
set_option maxRecDepth 20000 in
theorem ggX2_join_X1_add : GoodIn wsX2_join wsX1_add := goodIn_r _ [52, 12, 7, 35, 53, 44, 54, 20, 55, 56, 57, 79, 80, 81, 82, 83] (by decide +kernel) (by decide +kernel)
set_option maxRecDepth 20000 in
theorem gX2_join_X1_add : GoodIn wsX2_join (wsV RX2 37 RX1 yX1_add wsX1_add) := goodIn_app (goodIn_of _ (by decide +kernel)) ggX2_join_X1_add
set_option maxRecDepth 20000 in
theorem ggX2_join_X1_copyCells : GoodIn wsX2_join wsX1_copyCells := goodIn_r _ [61, 62, 32, 33, 5, 34, 35, 8, 9, 10, 11, 12, 63, 64, 65, 66, 44, 45, 46, 47, 48, 67, 68, 69, 70, 7, 71, 72, 73, 79, 80, 81, 82, 83] (by decide +kernel) (by decide +kernel)
set_option maxRecDepth 20000 in
theorem gX2_join_X1_copyCells : GoodIn wsX2_join (wsV RX2 206 RX1 yX1_copyCells wsX1_copyCells) := goodIn_app (goodIn_of _ (by decide +kernel)) ggX2_join_X1_copyCells
theorem dX2_join_0 : decode cX2_join 0 = .ok (.aload_n 0, 1) := by decide +kernel
theorem dX2_join_1 : decode cX2_join 1 = .ok (.getfield 10, 3) := by decide +kernel
theorem dX2_join_4 : decode cX2_join 4 = .ok (.iload_n 1, 1) := by decide +kernel
theorem dX2_join_5 : decode cX2_join 5 = .ok (.invokevirtual 47, 3) := by decide +kernel
theorem dX2_join_8 : decode cX2_join 8 = .ok (.istore_n 3, 1) := by decide +kernel
theorem dX2_join_9 : decode cX2_join 9 = .ok (.aload_n 0, 1) := by decide +kernel
theorem dX2_join_10 : decode cX2_join 10 = .ok (.getfield 10, 3) := by decide +kernel
theorem dX2_join_13 : decode cX2_join 13 = .ok (.iload_n 1, 1) := by decide +kernel
theorem dX2_join_14 : decode cX2_join 14 = .ok (.invokevirtual 110, 3) := by decide +kernel
theorem dX2_join_17 : decode cX2_join 17 = .ok (.istore 4, 2) := by decide +kernel
theorem dX2_join_19 : decode cX2_join 19 = .ok (.iload_n 3, 1) := by decide +kernel
theorem dX2_join_20 : decode cX2_join 20 = .ok (.ifCond .ne 13, 3) := by decide +kernel
theorem dX2_join_23 : decode cX2_join 23 = .ok (.aload_n 0, 1) := by decide +kernel
theorem dX2_join_24 : decode cX2_join 24 = .ok (.iload_n 1, 1) := by decide +kernel
theorem dX2_join_25 : decode cX2_join 25 = .ok (.bipush 6, 2) := by decide +kernel
theorem dX2_join_27 : decode cX2_join 27 = .ok (.invokevirtual 192, 3) := by decide +kernel
theorem dX2_join_30 : decode cX2_join 30 = .ok (.ifCond .eq 22, 3) := by decide +kernel
theorem dX2_join_33 : decode cX2_join 33 = .ok (.aload_n 0, 1) := by decide +kernel
theorem dX2_join_34 : decode cX2_join 34 = .ok (.iload_n 2, 1) := by decide +kernel
theorem dX2_join_35 : decode cX2_join 35 = .ok (.iload_n 3, 1) := by decide +kernel
theorem dX2_join_36 : decode cX2_join 36 = .ok (.ifCond .eq 8, 3) := by decide +kernel
theorem dX2_join_39 : decode cX2_join 39 = .ok (.iload 4, 2) := by decide +kernel
theorem dX2_join_41 : decode cX2_join 41 = .ok (.goto 5, 3) := by decide +kernel
theorem dX2_join_44 : decode cX2_join 44 = .ok (.bipush 6, 2) := by decide +kernel
theorem dX2_join_46 : decode cX2_join 46 = .ok (.invokevirtual 192, 3) := by decide +kernel
theorem dX2_join_49 : decode cX2_join 49 = .ok (.ifCond .ne 8, 3) := by decide +kernel
theorem dX2_join_52 : decode cX2_join 52 = .ok (.iconst 1, 1) := by decide +kernel
theorem dX2_join_53 : decode cX2_join 53 = .ok (.invokestatic 130, 3) := by decide +kernel
theorem dX2_join_56 : decode cX2_join 56 = .ok (.ireturn, 1) := by decide +kernel
theorem dX2_join_57 : decode cX2_join 57 = .ok (.iload_n 1, 1) := by decide +kernel
theorem dX2_join_58 : decode cX2_join 58 = .ok (.iconst (-1), 1) := by decide +kernel
theorem dX2_join_59 : decode cX2_join 59 = .ok (.if_icmp .eq 8, 3) := by decide +kernel
theorem dX2_join_62 : decode cX2_join 62 = .ok (.iload_n 2, 1) := by decide +kernel
theorem dX2_join_63 : decode cX2_join 63 = .ok (.iconst (-1), 1) := by decide +kernel
theorem dX2_join_64 : decode cX2_join 64 = .ok (.if_icmp .ne 8, 3) := by decide +kernel
theorem dX2_join_67 : decode cX2_join 67 = .ok (.iconst 2, 1) := by decide +kernel
theorem dX2_join_68 : decode cX2_join 68 = .ok (.invokestatic 130, 3) := by decide +kernel
theorem dX2_join_71 : decode cX2_join 71 = .ok (.ireturn, 1) := by decide +kernel
theorem dX2_join_72 : decode cX2_join 72 = .ok (.aload_n 0, 1) := by decide +kernel
theorem dX2_join_73 : decode cX2_join 73 = .ok (.getfield 10, 3) := by decide +kernel
theorem dX2_join_76 : decode cX2_join 76 = .ok (.iload_n 1, 1) := by decide +kernel
theorem dX2_join_77 : decode cX2_join 77 = .ok (.invokevirtual 116, 3) := by decide +kernel
theorem dX2_join_80 : decode cX2_join 80 = .ok (.istore 5, 2) := by decide +kernel
theorem dX2_join_82 : decode cX2_join 82 = .ok (.iload 5, 2) := by decide +kernel
theorem dX2_join_84 : decode cX2_join 84 = .ok (.aload_n 0, 1) := by decide +kernel
theorem dX2_join_85 : decode cX2_join 85 = .ok (.getfield 10, 3) := by decide +kernel
theorem dX2_join_88 : decode cX2_join 88 = .ok (.iload_n 2, 1) := by decide +kernel
theorem dX2_join_89 : decode cX2_join 89 = .ok (.invokevirtual 116, 3) := by decide +kernel
theorem dX2_join_92 : decode cX2_join 92 = .ok (.iadd, 1) := by decide +kernel
theorem dX2_join_93 : decode cX2_join 93 = .ok (.istore 6, 2) := by decide +kernel
theorem dX2_join_95 : decode cX2_join 95 = .ok (.iload 6, 2) := by decide +kernel
theorem dX2_join_97 : decode cX2_join 97 = .ok (.bipush 8, 2) := by decide +kernel
theorem dX2_join_99 : decode cX2_join 99 = .ok (.if_icmp .le 8, 3) := by decide +kernel
theorem dX2_join_102 : decode cX2_join 102 = .ok (.iconst 5, 1) := by decide +kernel
theorem dX2_join_103 : decode cX2_join 103 = .ok (.invokestatic 130, 3) := by decide +kernel
theorem dX2_join_106 : decode cX2_join 106 = .ok (.ireturn, 1) := by decide +kernel
theorem dX2_join_107 : decode cX2_join 107 = .ok (.iload 4, 2) := by decide +kernel
theorem dX2_join_109 : decode cX2_join 109 = .ok (.bipush 7, 2) := by decide +kernel
theorem dX2_join_111 : decode cX2_join 111 = .ok (.if_icmp .ne 16, 3) := by decide +kernel
theorem dX2_join_114 : decode cX2_join 114 = .ok (.aload_n 0, 1) := by decide +kernel
theorem dX2_join_115 : decode cX2_join 115 = .ok (.iload_n 2, 1) := by decide +kernel
theorem dX2_join_116 : decode cX2_join 116 = .ok (.invokevirtual 203, 3) := by decide +kernel
theorem dX2_join_119 : decode cX2_join 119 = .ok (.ifCond .ne 8, 3) := by decide +kernel
theorem dX2_join_122 : decode cX2_join 122 = .ok (.iconst 4, 1) := by decide +kernel
theorem dX2_join_123 : decode cX2_join 123 = .ok (.invokestatic 130, 3) := by decide +kernel
theorem dX2_join_126 : decode cX2_join 126 = .ok (.ireturn, 1) := by decide +kernel
theorem dX2_join_127 : decode cX2_join 127 = .ok (.aload_n 0, 1) := by decide +kernel
theorem dX2_join_128 : decode cX2_join 128 = .ok (.getfield 10, 3) := by decide +kernel
theorem dX2_join_131 : decode cX2_join 131 = .ok (.iload 4, 2) := by decide +kernel
theorem dX2_join_133 : decode cX2_join 133 = .ok (.iload 6, 2) := by decide +kernel
theorem dX2_join_135 : decode cX2_join 135 = .ok (.invokevirtual 37, 3) := by decide +kernel
theorem dX2_join_138 : decode cX2_join 138 = .ok (.istore 7, 2) := by decide +kernel
theorem dX2_join_140 : decode cX2_join 140 = .ok (.aload_n 0, 1) := by decide +kernel
theorem dX2_join_141 : decode cX2_join 141 = .ok (.getfield 10, 3) := by decide +kernel
theorem dX2_join_144 : decode cX2_join 144 = .ok (.iload_n 1, 1) := by decide +kernel
theorem dX2_join_145 : decode cX2_join 145 = .ok (.iload 7, 2) := by decide +kernel
theorem dX2_join_147 : decode cX2_join 147 = .ok (.iconst 0, 1) := by decide +kernel
theorem dX2_join_148 : decode cX2_join 148 = .ok (.invokevirtual 206, 3) := by decide +kernel
theorem dX2_join_151 : decode cX2_join 151 = .ok (.aload_n 0, 1) := by decide +kernel
theorem dX2_join_152 : decode cX2_join 152 = .ok (.getfield 10, 3) := by decide +kernel
theorem dX2_join_155 : decode cX2_join 155 = .ok (.iload_n 2, 1) := by decide +kernel
theorem dX2_join_156 : decode cX2_join 156 = .ok (.iload 7, 2) := by decide +kernel
theorem dX2_join_158 : decode cX2_join 158 = .ok (.iload 5, 2) := by decide +kernel
theorem dX2_join_160 : decode cX2_join 160 = .ok (.invokevirtual 206, 3) := by decide +kernel
theorem dX2_join_163 : decode cX2_join 163 = .ok (.iload 7, 2) := by decide +kernel
theorem dX2_join_165 : decode cX2_join 165 = .ok (.ireturn, 1) := by decide +kernel
set_option maxRecDepth 20000 in
theorem ggX2_holdsOnlyLives_X1_lengthOf : GoodIn wsX2_holdsOnlyLives wsX1_lengthOf := goodIn_r _ [6, 7, 8, 9, 10, 5, 11, 12, 39, 40, 41, 42, 43] (by decide +kernel) (by decide +kernel)
set_option maxRecDepth 20000 in
theorem gX2_holdsOnlyLives_X1_lengthOf : GoodIn wsX2_holdsOnlyLives (wsV RX2 116 RX1 yX1_lengthOf wsX1_lengthOf) := goodIn_app (goodIn_of _ (by decide +kernel)) ggX2_holdsOnlyLives_X1_lengthOf
set_option maxRecDepth 20000 in
theorem ggX2_holdsOnlyLives_X1_placed : GoodIn wsX2_holdsOnlyLives wsX1_placed := goodIn_r _ [16, 17, 18, 19, 20, 5, 21, 12, 7, 39, 40, 41, 42, 43] (by decide +kernel) (by decide +kernel)
set_option maxRecDepth 20000 in
theorem gX2_holdsOnlyLives_X1_placed : GoodIn wsX2_holdsOnlyLives (wsV RX2 183 RX1 yX1_placed wsX1_placed) := goodIn_app (goodIn_of _ (by decide +kernel)) ggX2_holdsOnlyLives_X1_placed
set_option maxRecDepth 20000 in
theorem ggX2_holdsOnlyLives_X2_isNoneOr : GoodIn wsX2_holdsOnlyLives wsX2_isNoneOr := goodIn_r _ [26, 1, 27, 28, 29, 5, 30, 31, 8, 9, 10, 11, 12, 32, 25, 33, 34, 35, 36, 37, 38, 39, 40, 41, 42, 43] (by decide +kernel) (by decide +kernel)
set_option maxRecDepth 20000 in
theorem gX2_holdsOnlyLives_X2_isNoneOr : GoodIn wsX2_holdsOnlyLives (wsV RX2 192 RX2 yX2_isNoneOr wsX2_isNoneOr) := goodIn_app (goodIn_of _ (by decide +kernel)) ggX2_holdsOnlyLives_X2_isNoneOr
theorem dX2_holdsOnlyLives_0 : decode cX2_holdsOnlyLives 0 = .ok (.aload_n 0, 1) := by decide +kernel
theorem dX2_holdsOnlyLives_1 : decode cX2_holdsOnlyLives 1 = .ok (.getfield 10, 3) := by decide +kernel
theorem dX2_holdsOnlyLives_4 : decode cX2_holdsOnlyLives 4 = .ok (.iload_n 1, 1) := by decide +kernel
theorem dX2_holdsOnlyLives_5 : decode cX2_holdsOnlyLives 5 = .ok (.invokevirtual 116, 3) := by decide +kernel
theorem dX2_holdsOnlyLives_8 : decode cX2_holdsOnlyLives 8 = .ok (.istore_n 2, 1) := by decide +kernel
theorem dX2_holdsOnlyLives_9 : decode cX2_holdsOnlyLives 9 = .ok (.iconst 0, 1) := by decide +kernel
theorem dX2_holdsOnlyLives_10 : decode cX2_holdsOnlyLives 10 = .ok (.istore_n 3, 1) := by decide +kernel
theorem dX2_holdsOnlyLives_11 : decode cX2_holdsOnlyLives 11 = .ok (.iload_n 3, 1) := by decide +kernel
theorem dX2_holdsOnlyLives_12 : decode cX2_holdsOnlyLives 12 = .ok (.iload_n 2, 1) := by decide +kernel
theorem dX2_holdsOnlyLives_13 : decode cX2_holdsOnlyLives 13 = .ok (.if_icmp .ge 28, 3) := by decide +kernel
theorem dX2_holdsOnlyLives_16 : decode cX2_holdsOnlyLives 16 = .ok (.aload_n 0, 1) := by decide +kernel
theorem dX2_holdsOnlyLives_17 : decode cX2_holdsOnlyLives 17 = .ok (.aload_n 0, 1) := by decide +kernel
theorem dX2_holdsOnlyLives_18 : decode cX2_holdsOnlyLives 18 = .ok (.getfield 10, 3) := by decide +kernel
theorem dX2_holdsOnlyLives_21 : decode cX2_holdsOnlyLives 21 = .ok (.iload_n 1, 1) := by decide +kernel
theorem dX2_holdsOnlyLives_22 : decode cX2_holdsOnlyLives 22 = .ok (.iload_n 3, 1) := by decide +kernel
theorem dX2_holdsOnlyLives_23 : decode cX2_holdsOnlyLives 23 = .ok (.invokevirtual 183, 3) := by decide +kernel
theorem dX2_holdsOnlyLives_26 : decode cX2_holdsOnlyLives 26 = .ok (.iconst 5, 1) := by decide +kernel
theorem dX2_holdsOnlyLives_27 : decode cX2_holdsOnlyLives 27 = .ok (.invokevirtual 192, 3) := by decide +kernel
theorem dX2_holdsOnlyLives_30 : decode cX2_holdsOnlyLives 30 = .ok (.ifCond .ne 5, 3) := by decide +kernel
theorem dX2_holdsOnlyLives_33 : decode cX2_holdsOnlyLives 33 = .ok (.iconst 0, 1) := by decide +kernel
theorem dX2_holdsOnlyLives_34 : decode cX2_holdsOnlyLives 34 = .ok (.ireturn, 1) := by decide +kernel
theorem dX2_holdsOnlyLives_35 : decode cX2_holdsOnlyLives 35 = .ok (.iinc 3 1, 3) := by decide +kernel
theorem dX2_holdsOnlyLives_38 : decode cX2_holdsOnlyLives 38 = .ok (.goto (-27), 3) := by decide +kernel
theorem dX2_holdsOnlyLives_41 : decode cX2_holdsOnlyLives 41 = .ok (.iconst 1, 1) := by decide +kernel
theorem dX2_holdsOnlyLives_42 : decode cX2_holdsOnlyLives 42 = .ok (.ireturn, 1) := by decide +kernel
set_option maxRecDepth 20000 in
theorem ggX2_copy_X2_fault : GoodIn wsX2_copy wsX2_fault := goodIn_r _ [5] (by decide +kernel) (by decide +kernel)
set_option maxRecDepth 20000 in
theorem gX2_copy_X2_fault : GoodIn wsX2_copy (va_wsS RX2 130 yX2_fault wsX2_fault) := goodIn_app (goodIn_of _ (by decide +kernel)) ggX2_copy_X2_fault
set_option maxRecDepth 20000 in
theorem ggX2_copy_X1_isA : GoodIn wsX2_copy wsX1_isA := goodIn_r _ [10, 11, 12, 13, 14, 9, 15, 16, 17, 4, 18, 66, 67, 68, 69, 70] (by decide +kernel) (by decide +kernel)
set_option maxRecDepth 20000 in
theorem gX2_copy_X1_isA : GoodIn wsX2_copy (wsV RX2 58 RX1 yX1_isA wsX1_isA) := goodIn_app (goodIn_of _ (by decide +kernel)) ggX2_copy_X1_isA
set_option maxRecDepth 20000 in
theorem ggX2_copy_X1_formOf : GoodIn wsX2_copy wsX1_formOf := goodIn_r _ [22, 11, 12, 13, 14, 9, 15, 16, 66, 67, 68, 69, 70] (by decide +kernel) (by decide +kernel)
set_option maxRecDepth 20000 in
theorem gX2_copy_X1_formOf : GoodIn wsX2_copy (wsV RX2 110 RX1 yX1_formOf wsX1_formOf) := goodIn_app (goodIn_of _ (by decide +kernel)) ggX2_copy_X1_formOf
set_option maxRecDepth 20000 in
theorem ggX2_copy_X1_addCopy : GoodIn wsX2_copy wsX1_addCopy := goodIn_r _ [26, 27, 28, 29, 9, 30, 31, 12, 13, 14, 15, 16, 32, 33, 34, 35, 11, 36, 37, 38, 4, 39, 40, 41, 42, 43, 44, 45, 46, 47, 48, 49, 50, 51, 52, 53, 54, 55, 56, 57, 58, 59, 60, 66, 67, 68, 69, 70] (by decide +kernel) (by decide +kernel)
set_option maxRecDepth 20000 in
theorem gX2_copy_X1_addCopy : GoodIn wsX2_copy (wsV RX2 186 RX1 yX1_addCopy wsX1_addCopy) := goodIn_app (goodIn_of _ (by decide +kernel)) ggX2_copy_X1_addCopy
theorem dX2_copy_0 : decode cX2_copy 0 = .ok (.iload_n 1, 1) := by decide +kernel
theorem dX2_copy_1 : decode cX2_copy 1 = .ok (.iconst (-1), 1) := by decide +kernel
theorem dX2_copy_2 : decode cX2_copy 2 = .ok (.if_icmp .ne 8, 3) := by decide +kernel
theorem dX2_copy_5 : decode cX2_copy 5 = .ok (.iconst 2, 1) := by decide +kernel
theorem dX2_copy_6 : decode cX2_copy 6 = .ok (.invokestatic 130, 3) := by decide +kernel
theorem dX2_copy_9 : decode cX2_copy 9 = .ok (.ireturn, 1) := by decide +kernel
theorem dX2_copy_10 : decode cX2_copy 10 = .ok (.aload_n 0, 1) := by decide +kernel
theorem dX2_copy_11 : decode cX2_copy 11 = .ok (.getfield 10, 3) := by decide +kernel
theorem dX2_copy_14 : decode cX2_copy 14 = .ok (.iload_n 1, 1) := by decide +kernel
theorem dX2_copy_15 : decode cX2_copy 15 = .ok (.iconst 4, 1) := by decide +kernel
theorem dX2_copy_16 : decode cX2_copy 16 = .ok (.invokevirtual 58, 3) := by decide +kernel
theorem dX2_copy_19 : decode cX2_copy 19 = .ok (.ifCond .eq 10, 3) := by decide +kernel
theorem dX2_copy_22 : decode cX2_copy 22 = .ok (.iconst 1, 1) := by decide +kernel
theorem dX2_copy_23 : decode cX2_copy 23 = .ok (.invokestatic 130, 3) := by decide +kernel
theorem dX2_copy_26 : decode cX2_copy 26 = .ok (.goto 19, 3) := by decide +kernel
theorem dX2_copy_29 : decode cX2_copy 29 = .ok (.aload_n 0, 1) := by decide +kernel
theorem dX2_copy_30 : decode cX2_copy 30 = .ok (.getfield 10, 3) := by decide +kernel
theorem dX2_copy_33 : decode cX2_copy 33 = .ok (.iload_n 1, 1) := by decide +kernel
theorem dX2_copy_34 : decode cX2_copy 34 = .ok (.aload_n 0, 1) := by decide +kernel
theorem dX2_copy_35 : decode cX2_copy 35 = .ok (.getfield 10, 3) := by decide +kernel
theorem dX2_copy_38 : decode cX2_copy 38 = .ok (.iload_n 1, 1) := by decide +kernel
theorem dX2_copy_39 : decode cX2_copy 39 = .ok (.invokevirtual 110, 3) := by decide +kernel
theorem dX2_copy_42 : decode cX2_copy 42 = .ok (.invokevirtual 186, 3) := by decide +kernel
theorem dX2_copy_45 : decode cX2_copy 45 = .ok (.ireturn, 1) := by decide +kernel
set_option maxRecDepth 20000 in
theorem ggX2_makeCable_X2_isLength : GoodIn wsX2_makeCable wsX2_isLength := goodIn_r _ [5] (by decide +kernel) (by decide +kernel)
set_option maxRecDepth 20000 in
theorem gX2_makeCable_X2_isLength : GoodIn wsX2_makeCable (va_wsS RX2 33 yX2_isLength wsX2_isLength) := goodIn_app (goodIn_of _ (by decide +kernel)) ggX2_makeCable_X2_isLength
set_option maxRecDepth 20000 in
theorem ggX2_makeCable_X1_add : GoodIn wsX2_makeCable wsX1_add := goodIn_r _ [10, 11, 12, 13, 14, 15, 3, 4, 5, 16, 17, 26, 27, 28, 29, 30] (by decide +kernel) (by decide +kernel)
set_option maxRecDepth 20000 in
theorem gX2_makeCable_X1_add : GoodIn wsX2_makeCable (wsV RX2 37 RX1 yX1_add wsX1_add) := goodIn_app (goodIn_of _ (by decide +kernel)) ggX2_makeCable_X1_add
set_option maxRecDepth 20000 in
theorem ggX2_makeCable_X2_fault : GoodIn wsX2_makeCable wsX2_fault := goodIn_r _ [20] (by decide +kernel) (by decide +kernel)
set_option maxRecDepth 20000 in
theorem gX2_makeCable_X2_fault : GoodIn wsX2_makeCable (va_wsS RX2 130 yX2_fault wsX2_fault) := goodIn_app (goodIn_of _ (by decide +kernel)) ggX2_makeCable_X2_fault
theorem dX2_makeCable_0 : decode cX2_makeCable 0 = .ok (.iload_n 1, 1) := by decide +kernel
theorem dX2_makeCable_1 : decode cX2_makeCable 1 = .ok (.invokestatic 33, 3) := by decide +kernel
theorem dX2_makeCable_4 : decode cX2_makeCable 4 = .ok (.ifCond .eq 16, 3) := by decide +kernel
theorem dX2_makeCable_7 : decode cX2_makeCable 7 = .ok (.aload_n 0, 1) := by decide +kernel
theorem dX2_makeCable_8 : decode cX2_makeCable 8 = .ok (.getfield 10, 3) := by decide +kernel
theorem dX2_makeCable_11 : decode cX2_makeCable 11 = .ok (.bipush 6, 2) := by decide +kernel
theorem dX2_makeCable_13 : decode cX2_makeCable 13 = .ok (.iload_n 1, 1) := by decide +kernel
theorem dX2_makeCable_14 : decode cX2_makeCable 14 = .ok (.invokevirtual 37, 3) := by decide +kernel
theorem dX2_makeCable_17 : decode cX2_makeCable 17 = .ok (.goto 7, 3) := by decide +kernel
theorem dX2_makeCable_20 : decode cX2_makeCable 20 = .ok (.iconst 5, 1) := by decide +kernel
theorem dX2_makeCable_21 : decode cX2_makeCable 21 = .ok (.invokestatic 130, 3) := by decide +kernel
theorem dX2_makeCable_24 : decode cX2_makeCable 24 = .ok (.ireturn, 1) := by decide +kernel
set_option maxRecDepth 20000 in
theorem ggX2_check_X2_isView : GoodIn wsX2_check wsX2_isView := goodIn_r _ [4] (by decide +kernel) (by decide +kernel)
set_option maxRecDepth 20000 in
theorem gX2_check_X2_isView : GoodIn wsX2_check (va_wsS RX2 107 yX2_isView wsX2_isView) := goodIn_app (goodIn_of _ (by decide +kernel)) ggX2_check_X2_isView
set_option maxRecDepth 20000 in
theorem ggX2_check_X2_isNoneOr : GoodIn wsX2_check wsX2_isNoneOr := goodIn_r _ [8, 9, 10, 11, 12, 13, 14, 15, 16, 17, 18, 19, 20, 21, 3, 22, 26, 27, 28, 29, 30, 31, 32, 33, 34, 35] (by decide +kernel) (by decide +kernel)
set_option maxRecDepth 20000 in
theorem gX2_check_X2_isNoneOr : GoodIn wsX2_check (wsV RX2 192 RX2 yX2_isNoneOr wsX2_isNoneOr) := goodIn_app (goodIn_of _ (by decide +kernel)) ggX2_check_X2_isNoneOr
set_option maxRecDepth 20000 in
theorem ggX2_check_X2_fault : GoodIn wsX2_check wsX2_fault := goodIn_r _ [25] (by decide +kernel) (by decide +kernel)
set_option maxRecDepth 20000 in
theorem gX2_check_X2_fault : GoodIn wsX2_check (va_wsS RX2 130 yX2_fault wsX2_fault) := goodIn_app (goodIn_of _ (by decide +kernel)) ggX2_check_X2_fault
theorem dX2_check_0 : decode cX2_check 0 = .ok (.iload_n 2, 1) := by decide +kernel
theorem dX2_check_1 : decode cX2_check 1 = .ok (.invokestatic 107, 3) := by decide +kernel
theorem dX2_check_4 : decode cX2_check 4 = .ok (.ifCond .eq 16, 3) := by decide +kernel
theorem dX2_check_7 : decode cX2_check 7 = .ok (.aload_n 0, 1) := by decide +kernel
theorem dX2_check_8 : decode cX2_check 8 = .ok (.iload_n 1, 1) := by decide +kernel
theorem dX2_check_9 : decode cX2_check 9 = .ok (.iload_n 2, 1) := by decide +kernel
theorem dX2_check_10 : decode cX2_check 10 = .ok (.invokevirtual 192, 3) := by decide +kernel
theorem dX2_check_13 : decode cX2_check 13 = .ok (.ifCond .eq 7, 3) := by decide +kernel
theorem dX2_check_16 : decode cX2_check 16 = .ok (.iload_n 1, 1) := by decide +kernel
theorem dX2_check_17 : decode cX2_check 17 = .ok (.goto 7, 3) := by decide +kernel
theorem dX2_check_20 : decode cX2_check 20 = .ok (.iconst 1, 1) := by decide +kernel
theorem dX2_check_21 : decode cX2_check 21 = .ok (.invokestatic 130, 3) := by decide +kernel
theorem dX2_check_24 : decode cX2_check 24 = .ok (.ireturn, 1) := by decide +kernel
theorem dX3_init_0 : decode cX3_init 0 = .ok (.aload_n 0, 1) := by decide +kernel
theorem dX3_init_1 : decode cX3_init 1 = .ok (.invokespecial 1, 3) := by decide +kernel
theorem dX3_init_4 : decode cX3_init 4 = .ok (.aload_n 0, 1) := by decide +kernel
theorem dX3_init_5 : decode cX3_init 5 = .ok (.bipush 60, 2) := by decide +kernel
theorem dX3_init_7 : decode cX3_init 7 = .ok (.newarray .int, 2) := by decide +kernel
theorem dX3_init_9 : decode cX3_init 9 = .ok (.putfield 7, 3) := by decide +kernel
theorem dX3_init_12 : decode cX3_init 12 = .ok (.aload_n 0, 1) := by decide +kernel
theorem dX3_init_13 : decode cX3_init 13 = .ok (.bipush 60, 2) := by decide +kernel
theorem dX3_init_15 : decode cX3_init 15 = .ok (.newarray .int, 2) := by decide +kernel
theorem dX3_init_17 : decode cX3_init 17 = .ok (.putfield 13, 3) := by decide +kernel
theorem dX3_init_20 : decode cX3_init 20 = .ok (.aload_n 0, 1) := by decide +kernel
theorem dX3_init_21 : decode cX3_init 21 = .ok (.bipush 60, 2) := by decide +kernel
theorem dX3_init_23 : decode cX3_init 23 = .ok (.newarray .int, 2) := by decide +kernel
theorem dX3_init_25 : decode cX3_init 25 = .ok (.putfield 16, 3) := by decide +kernel
theorem dX3_init_28 : decode cX3_init 28 = .ok (.aload_n 0, 1) := by decide +kernel
theorem dX3_init_29 : decode cX3_init 29 = .ok (.sipush 480, 3) := by decide +kernel
theorem dX3_init_32 : decode cX3_init 32 = .ok (.newarray .long, 2) := by decide +kernel
theorem dX3_init_34 : decode cX3_init 34 = .ok (.putfield 19, 3) := by decide +kernel
theorem dX3_init_37 : decode cX3_init 37 = .ok (.aload_n 0, 1) := by decide +kernel
theorem dX3_init_38 : decode cX3_init 38 = .ok (.sipush 480, 3) := by decide +kernel
theorem dX3_init_41 : decode cX3_init 41 = .ok (.newarray .int, 2) := by decide +kernel
theorem dX3_init_43 : decode cX3_init 43 = .ok (.putfield 23, 3) := by decide +kernel
theorem dX3_init_46 : decode cX3_init 46 = .ok (.aload_n 0, 1) := by decide +kernel
theorem dX3_init_47 : decode cX3_init 47 = .ok (.bipush 6, 2) := by decide +kernel
theorem dX3_init_49 : decode cX3_init 49 = .ok (.newarray .int, 2) := by decide +kernel
theorem dX3_init_51 : decode cX3_init 51 = .ok (.putfield 26, 3) := by decide +kernel
theorem dX3_init_54 : decode cX3_init 54 = .ok (.aload_n 0, 1) := by decide +kernel
theorem dX3_init_55 : decode cX3_init 55 = .ok (.bipush 72, 2) := by decide +kernel
theorem dX3_init_57 : decode cX3_init 57 = .ok (.newarray .int, 2) := by decide +kernel
theorem dX3_init_59 : decode cX3_init 59 = .ok (.putfield 29, 3) := by decide +kernel
theorem dX3_init_62 : decode cX3_init 62 = .ok (.aload_n 0, 1) := by decide +kernel
theorem dX3_init_63 : decode cX3_init 63 = .ok (.bipush 72, 2) := by decide +kernel
theorem dX3_init_65 : decode cX3_init 65 = .ok (.newarray .int, 2) := by decide +kernel
theorem dX3_init_67 : decode cX3_init 67 = .ok (.putfield 32, 3) := by decide +kernel
theorem dX3_init_70 : decode cX3_init 70 = .ok (.aload_n 0, 1) := by decide +kernel
theorem dX3_init_71 : decode cX3_init 71 = .ok (.bipush 72, 2) := by decide +kernel
theorem dX3_init_73 : decode cX3_init 73 = .ok (.newarray .int, 2) := by decide +kernel
theorem dX3_init_75 : decode cX3_init 75 = .ok (.putfield 35, 3) := by decide +kernel
theorem dX3_init_78 : decode cX3_init 78 = .ok (.aload_n 0, 1) := by decide +kernel
theorem dX3_init_79 : decode cX3_init 79 = .ok (.iconst (-1), 1) := by decide +kernel
theorem dX3_init_80 : decode cX3_init 80 = .ok (.putfield 38, 3) := by decide +kernel
theorem dX3_init_83 : decode cX3_init 83 = .ok (.return_, 1) := by decide +kernel
theorem dX3_isIn_0 : decode cX3_isIn 0 = .ok (.iload_n 0, 1) := by decide +kernel
theorem dX3_isIn_1 : decode cX3_isIn 1 = .ok (.iload_n 1, 1) := by decide +kernel
theorem dX3_isIn_2 : decode cX3_isIn 2 = .ok (.if_icmp .lt 12, 3) := by decide +kernel
theorem dX3_isIn_5 : decode cX3_isIn 5 = .ok (.iload_n 0, 1) := by decide +kernel
theorem dX3_isIn_6 : decode cX3_isIn 6 = .ok (.iload_n 2, 1) := by decide +kernel
theorem dX3_isIn_7 : decode cX3_isIn 7 = .ok (.if_icmp .gt 7, 3) := by decide +kernel
theorem dX3_isIn_10 : decode cX3_isIn 10 = .ok (.iconst 1, 1) := by decide +kernel
theorem dX3_isIn_11 : decode cX3_isIn 11 = .ok (.goto 4, 3) := by decide +kernel
theorem dX3_isIn_14 : decode cX3_isIn 14 = .ok (.iconst 0, 1) := by decide +kernel
theorem dX3_isIn_15 : decode cX3_isIn 15 = .ok (.ireturn, 1) := by decide +kernel
set_option maxRecDepth 20000 in
theorem ggX3_isValue_X3_isIn : GoodIn wsX3_isValue wsX3_isIn := goodIn_r _ [5] (by decide +kernel) (by decide +kernel)
set_option maxRecDepth 20000 in
theorem gX3_isValue_X3_isIn : GoodIn wsX3_isValue (va_wsS RX3 45 yX3_isIn wsX3_isIn) := goodIn_app (goodIn_of _ (by decide +kernel)) ggX3_isValue_X3_isIn
theorem dX3_isValue_0 : decode cX3_isValue 0 = .ok (.iload_n 1, 1) := by decide +kernel
theorem dX3_isValue_1 : decode cX3_isValue 1 = .ok (.iconst 0, 1) := by decide +kernel
theorem dX3_isValue_2 : decode cX3_isValue 2 = .ok (.aload_n 0, 1) := by decide +kernel
theorem dX3_isValue_3 : decode cX3_isValue 3 = .ok (.getfield 42, 3) := by decide +kernel
theorem dX3_isValue_6 : decode cX3_isValue 6 = .ok (.iconst 1, 1) := by decide +kernel
theorem dX3_isValue_7 : decode cX3_isValue 7 = .ok (.isub, 1) := by decide +kernel
theorem dX3_isValue_8 : decode cX3_isValue 8 = .ok (.invokestatic 45, 3) := by decide +kernel
theorem dX3_isValue_11 : decode cX3_isValue 11 = .ok (.ireturn, 1) := by decide +kernel
set_option maxRecDepth 20000 in
theorem ggX3_mayBe_X3_isIn : GoodIn wsX3_mayBe wsX3_isIn := goodIn_r _ [5] (by decide +kernel) (by decide +kernel)
set_option maxRecDepth 20000 in
theorem gX3_mayBe_X3_isIn : GoodIn wsX3_mayBe (va_wsS RX3 45 yX3_isIn wsX3_isIn) := goodIn_app (goodIn_of _ (by decide +kernel)) ggX3_mayBe_X3_isIn
theorem dX3_mayBe_0 : decode cX3_mayBe 0 = .ok (.iload_n 1, 1) := by decide +kernel
theorem dX3_mayBe_1 : decode cX3_mayBe 1 = .ok (.iconst (-1), 1) := by decide +kernel
theorem dX3_mayBe_2 : decode cX3_mayBe 2 = .ok (.aload_n 0, 1) := by decide +kernel
theorem dX3_mayBe_3 : decode cX3_mayBe 3 = .ok (.getfield 42, 3) := by decide +kernel
theorem dX3_mayBe_6 : decode cX3_mayBe 6 = .ok (.iconst 1, 1) := by decide +kernel
theorem dX3_mayBe_7 : decode cX3_mayBe 7 = .ok (.isub, 1) := by decide +kernel
theorem dX3_mayBe_8 : decode cX3_mayBe 8 = .ok (.invokestatic 45, 3) := by decide +kernel
theorem dX3_mayBe_11 : decode cX3_mayBe 11 = .ok (.ireturn, 1) := by decide +kernel
theorem dX3_formIs_0 : decode cX3_formIs 0 = .ok (.iload_n 0, 1) := by decide +kernel
theorem dX3_formIs_1 : decode cX3_formIs 1 = .ok (.iload_n 1, 1) := by decide +kernel
theorem dX3_formIs_2 : decode cX3_formIs 2 = .ok (.if_icmp .eq 49, 3) := by decide +kernel
theorem dX3_formIs_5 : decode cX3_formIs 5 = .ok (.iload_n 0, 1) := by decide +kernel
theorem dX3_formIs_6 : decode cX3_formIs 6 = .ok (.iconst 5, 1) := by decide +kernel
theorem dX3_formIs_7 : decode cX3_formIs 7 = .ok (.if_icmp .ne 14, 3) := by decide +kernel
theorem dX3_formIs_10 : decode cX3_formIs 10 = .ok (.iload_n 1, 1) := by decide +kernel
theorem dX3_formIs_11 : decode cX3_formIs 11 = .ok (.iconst 4, 1) := by decide +kernel
theorem dX3_formIs_12 : decode cX3_formIs 12 = .ok (.if_icmp .eq 39, 3) := by decide +kernel
theorem dX3_formIs_15 : decode cX3_formIs 15 = .ok (.iload_n 1, 1) := by decide +kernel
theorem dX3_formIs_16 : decode cX3_formIs 16 = .ok (.bipush 11, 2) := by decide +kernel
theorem dX3_formIs_18 : decode cX3_formIs 18 = .ok (.if_icmp .eq 33, 3) := by decide +kernel
theorem dX3_formIs_21 : decode cX3_formIs 21 = .ok (.iload_n 0, 1) := by decide +kernel
theorem dX3_formIs_22 : decode cX3_formIs 22 = .ok (.bipush 7, 2) := by decide +kernel
theorem dX3_formIs_24 : decode cX3_formIs 24 = .ok (.if_icmp .ne 15, 3) := by decide +kernel
theorem dX3_formIs_27 : decode cX3_formIs 27 = .ok (.iload_n 1, 1) := by decide +kernel
theorem dX3_formIs_28 : decode cX3_formIs 28 = .ok (.bipush 6, 2) := by decide +kernel
theorem dX3_formIs_30 : decode cX3_formIs 30 = .ok (.if_icmp .eq 21, 3) := by decide +kernel
theorem dX3_formIs_33 : decode cX3_formIs 33 = .ok (.iload_n 1, 1) := by decide +kernel
theorem dX3_formIs_34 : decode cX3_formIs 34 = .ok (.bipush 8, 2) := by decide +kernel
theorem dX3_formIs_36 : decode cX3_formIs 36 = .ok (.if_icmp .eq 15, 3) := by decide +kernel
theorem dX3_formIs_39 : decode cX3_formIs 39 = .ok (.iload_n 0, 1) := by decide +kernel
theorem dX3_formIs_40 : decode cX3_formIs 40 = .ok (.bipush 10, 2) := by decide +kernel
theorem dX3_formIs_42 : decode cX3_formIs 42 = .ok (.if_icmp .ne 13, 3) := by decide +kernel
theorem dX3_formIs_45 : decode cX3_formIs 45 = .ok (.iload_n 1, 1) := by decide +kernel
theorem dX3_formIs_46 : decode cX3_formIs 46 = .ok (.bipush 9, 2) := by decide +kernel
theorem dX3_formIs_48 : decode cX3_formIs 48 = .ok (.if_icmp .ne 7, 3) := by decide +kernel
theorem dX3_formIs_51 : decode cX3_formIs 51 = .ok (.iconst 1, 1) := by decide +kernel
theorem dX3_formIs_52 : decode cX3_formIs 52 = .ok (.goto 4, 3) := by decide +kernel
theorem dX3_formIs_55 : decode cX3_formIs 55 = .ok (.iconst 0, 1) := by decide +kernel
theorem dX3_formIs_56 : decode cX3_formIs 56 = .ok (.ireturn, 1) := by decide +kernel
set_option maxRecDepth 20000 in
theorem ggX3_isOf_X3_formIs : GoodIn wsX3_isOf wsX3_formIs := goodIn_r _ [5] (by decide +kernel) (by decide +kernel)
set_option maxRecDepth 20000 in
theorem gX3_isOf_X3_formIs : GoodIn wsX3_isOf (va_wsS RX3 49 yX3_formIs wsX3_formIs) := goodIn_app (goodIn_of _ (by decide +kernel)) ggX3_isOf_X3_formIs
theorem dX3_isOf_0 : decode cX3_isOf 0 = .ok (.iload_n 1, 1) := by decide +kernel
theorem dX3_isOf_1 : decode cX3_isOf 1 = .ok (.ifCond .lt 20, 3) := by decide +kernel
theorem dX3_isOf_4 : decode cX3_isOf 4 = .ok (.aload_n 0, 1) := by decide +kernel
theorem dX3_isOf_5 : decode cX3_isOf 5 = .ok (.getfield 7, 3) := by decide +kernel
theorem dX3_isOf_8 : decode cX3_isOf 8 = .ok (.iload_n 1, 1) := by decide +kernel
theorem dX3_isOf_9 : decode cX3_isOf 9 = .ok (.iaload, 1) := by decide +kernel
theorem dX3_isOf_10 : decode cX3_isOf 10 = .ok (.iload_n 2, 1) := by decide +kernel
theorem dX3_isOf_11 : decode cX3_isOf 11 = .ok (.invokestatic 49, 3) := by decide +kernel
theorem dX3_isOf_14 : decode cX3_isOf 14 = .ok (.ifCond .eq 7, 3) := by decide +kernel
theorem dX3_isOf_17 : decode cX3_isOf 17 = .ok (.iconst 1, 1) := by decide +kernel
theorem dX3_isOf_18 : decode cX3_isOf 18 = .ok (.goto 4, 3) := by decide +kernel
theorem dX3_isOf_21 : decode cX3_isOf 21 = .ok (.iconst 0, 1) := by decide +kernel
theorem dX3_isOf_22 : decode cX3_isOf 22 = .ok (.ireturn, 1) := by decide +kernel
theorem dX3_make_0 : decode cX3_make 0 = .ok (.aload_n 0, 1) := by decide +kernel
theorem dX3_make_1 : decode cX3_make 1 = .ok (.getfield 42, 3) := by decide +kernel
theorem dX3_make_4 : decode cX3_make 4 = .ok (.istore_n 3, 1) := by decide +kernel
theorem dX3_make_5 : decode cX3_make 5 = .ok (.aload_n 0, 1) := by decide +kernel
theorem dX3_make_6 : decode cX3_make 6 = .ok (.dup, 1) := by decide +kernel
theorem dX3_make_7 : decode cX3_make 7 = .ok (.getfield 42, 3) := by decide +kernel
theorem dX3_make_10 : decode cX3_make 10 = .ok (.iconst 1, 1) := by decide +kernel
theorem dX3_make_11 : decode cX3_make 11 = .ok (.iadd, 1) := by decide +kernel
theorem dX3_make_12 : decode cX3_make 12 = .ok (.putfield 42, 3) := by decide +kernel
theorem dX3_make_15 : decode cX3_make 15 = .ok (.aload_n 0, 1) := by decide +kernel
theorem dX3_make_16 : decode cX3_make 16 = .ok (.getfield 7, 3) := by decide +kernel
theorem dX3_make_19 : decode cX3_make 19 = .ok (.iload_n 3, 1) := by decide +kernel
theorem dX3_make_20 : decode cX3_make 20 = .ok (.iload_n 1, 1) := by decide +kernel
theorem dX3_make_21 : decode cX3_make 21 = .ok (.iastore, 1) := by decide +kernel
theorem dX3_make_22 : decode cX3_make 22 = .ok (.aload_n 0, 1) := by decide +kernel
theorem dX3_make_23 : decode cX3_make 23 = .ok (.getfield 13, 3) := by decide +kernel
theorem dX3_make_26 : decode cX3_make 26 = .ok (.iload_n 3, 1) := by decide +kernel
theorem dX3_make_27 : decode cX3_make 27 = .ok (.iload_n 2, 1) := by decide +kernel
theorem dX3_make_28 : decode cX3_make 28 = .ok (.iastore, 1) := by decide +kernel
theorem dX3_make_29 : decode cX3_make 29 = .ok (.aload_n 0, 1) := by decide +kernel
theorem dX3_make_30 : decode cX3_make 30 = .ok (.getfield 16, 3) := by decide +kernel
theorem dX3_make_33 : decode cX3_make 33 = .ok (.iload_n 3, 1) := by decide +kernel
theorem dX3_make_34 : decode cX3_make 34 = .ok (.iconst 0, 1) := by decide +kernel
theorem dX3_make_35 : decode cX3_make 35 = .ok (.iastore, 1) := by decide +kernel
theorem dX3_make_36 : decode cX3_make 36 = .ok (.iconst 0, 1) := by decide +kernel
theorem dX3_make_37 : decode cX3_make 37 = .ok (.istore 4, 2) := by decide +kernel
theorem dX3_make_39 : decode cX3_make 39 = .ok (.iload 4, 2) := by decide +kernel
theorem dX3_make_41 : decode cX3_make 41 = .ok (.bipush 8, 2) := by decide +kernel
theorem dX3_make_43 : decode cX3_make 43 = .ok (.if_icmp .ge 35, 3) := by decide +kernel
theorem dX3_make_46 : decode cX3_make 46 = .ok (.aload_n 0, 1) := by decide +kernel
theorem dX3_make_47 : decode cX3_make 47 = .ok (.getfield 19, 3) := by decide +kernel
theorem dX3_make_50 : decode cX3_make 50 = .ok (.bipush 8, 2) := by decide +kernel
theorem dX3_make_52 : decode cX3_make 52 = .ok (.iload_n 3, 1) := by decide +kernel
theorem dX3_make_53 : decode cX3_make 53 = .ok (.imul, 1) := by decide +kernel
theorem dX3_make_54 : decode cX3_make 54 = .ok (.iload 4, 2) := by decide +kernel
theorem dX3_make_56 : decode cX3_make 56 = .ok (.iadd, 1) := by decide +kernel
theorem dX3_make_57 : decode cX3_make 57 = .ok (.lconst 0, 1) := by decide +kernel
theorem dX3_make_58 : decode cX3_make 58 = .ok (.lastore, 1) := by decide +kernel
theorem dX3_make_59 : decode cX3_make 59 = .ok (.aload_n 0, 1) := by decide +kernel
theorem dX3_make_60 : decode cX3_make 60 = .ok (.getfield 23, 3) := by decide +kernel
theorem dX3_make_63 : decode cX3_make 63 = .ok (.bipush 8, 2) := by decide +kernel
theorem dX3_make_65 : decode cX3_make 65 = .ok (.iload_n 3, 1) := by decide +kernel
theorem dX3_make_66 : decode cX3_make 66 = .ok (.imul, 1) := by decide +kernel
theorem dX3_make_67 : decode cX3_make 67 = .ok (.iload 4, 2) := by decide +kernel
theorem dX3_make_69 : decode cX3_make 69 = .ok (.iadd, 1) := by decide +kernel
theorem dX3_make_70 : decode cX3_make 70 = .ok (.iconst (-1), 1) := by decide +kernel
theorem dX3_make_71 : decode cX3_make 71 = .ok (.iastore, 1) := by decide +kernel
theorem dX3_make_72 : decode cX3_make 72 = .ok (.iinc 4 1, 3) := by decide +kernel
theorem dX3_make_75 : decode cX3_make 75 = .ok (.goto (-36), 3) := by decide +kernel
theorem dX3_make_78 : decode cX3_make 78 = .ok (.iload_n 3, 1) := by decide +kernel
theorem dX3_make_79 : decode cX3_make 79 = .ok (.ireturn, 1) := by decide +kernel
set_option maxRecDepth 20000 in
theorem ggX3_row_X3_isIn : GoodIn wsX3_row wsX3_isIn := goodIn_r _ [5] (by decide +kernel) (by decide +kernel)
set_option maxRecDepth 20000 in
theorem gX3_row_X3_isIn : GoodIn wsX3_row (va_wsS RX3 45 yX3_isIn wsX3_isIn) := goodIn_app (goodIn_of _ (by decide +kernel)) ggX3_row_X3_isIn
set_option maxRecDepth 20000 in
theorem ggX3_row_X3_make : GoodIn wsX3_row wsX3_make := goodIn_r _ [9, 1, 10, 11, 12, 13, 14, 15, 16, 17, 18, 19, 20, 21, 22, 23, 24, 25, 26, 27] (by decide +kernel) (by decide +kernel)
set_option maxRecDepth 20000 in
theorem gX3_row_X3_make : GoodIn wsX3_row (wsV RX3 53 RX3 yX3_make wsX3_make) := goodIn_app (goodIn_of _ (by decide +kernel)) ggX3_row_X3_make
theorem dX3_row_0 : decode cX3_row 0 = .ok (.iload_n 1, 1) := by decide +kernel
theorem dX3_row_1 : decode cX3_row 1 = .ok (.iconst 0, 1) := by decide +kernel
theorem dX3_row_2 : decode cX3_row 2 = .ok (.iconst 2, 1) := by decide +kernel
theorem dX3_row_3 : decode cX3_row 3 = .ok (.invokestatic 45, 3) := by decide +kernel
theorem dX3_row_6 : decode cX3_row 6 = .ok (.ifCond .eq 13, 3) := by decide +kernel
theorem dX3_row_9 : decode cX3_row 9 = .ok (.iload_n 2, 1) := by decide +kernel
theorem dX3_row_10 : decode cX3_row 10 = .ok (.iconst 0, 1) := by decide +kernel
theorem dX3_row_11 : decode cX3_row 11 = .ok (.bipush 8, 2) := by decide +kernel
theorem dX3_row_13 : decode cX3_row 13 = .ok (.invokestatic 45, 3) := by decide +kernel
theorem dX3_row_16 : decode cX3_row 16 = .ok (.ifCond .ne 6, 3) := by decide +kernel
theorem dX3_row_19 : decode cX3_row 19 = .ok (.bipush (-3), 2) := by decide +kernel
theorem dX3_row_21 : decode cX3_row 21 = .ok (.ireturn, 1) := by decide +kernel
theorem dX3_row_22 : decode cX3_row 22 = .ok (.aload_n 0, 1) := by decide +kernel
theorem dX3_row_23 : decode cX3_row 23 = .ok (.getfield 42, 3) := by decide +kernel
theorem dX3_row_26 : decode cX3_row 26 = .ok (.bipush 60, 2) := by decide +kernel
theorem dX3_row_28 : decode cX3_row 28 = .ok (.if_icmp .ne 8, 3) := by decide +kernel
theorem dX3_row_31 : decode cX3_row 31 = .ok (.bipush (-4), 2) := by decide +kernel
theorem dX3_row_33 : decode cX3_row 33 = .ok (.goto 9, 3) := by decide +kernel
theorem dX3_row_36 : decode cX3_row 36 = .ok (.aload_n 0, 1) := by decide +kernel
theorem dX3_row_37 : decode cX3_row 37 = .ok (.iload_n 1, 1) := by decide +kernel
theorem dX3_row_38 : decode cX3_row 38 = .ok (.iload_n 2, 1) := by decide +kernel
theorem dX3_row_39 : decode cX3_row 39 = .ok (.invokevirtual 53, 3) := by decide +kernel
theorem dX3_row_42 : decode cX3_row 42 = .ok (.ireturn, 1) := by decide +kernel
set_option maxRecDepth 20000 in
theorem ggX3_board_X3_isIn : GoodIn wsX3_board wsX3_isIn := goodIn_r _ [5] (by decide +kernel) (by decide +kernel)
set_option maxRecDepth 20000 in
theorem gX3_board_X3_isIn : GoodIn wsX3_board (va_wsS RX3 45 yX3_isIn wsX3_isIn) := goodIn_app (goodIn_of _ (by decide +kernel)) ggX3_board_X3_isIn
set_option maxRecDepth 20000 in
theorem ggX3_board_X3_make : GoodIn wsX3_board wsX3_make := goodIn_r _ [9, 1, 10, 11, 12, 13, 14, 15, 16, 17, 18, 19, 20, 21, 22, 23, 24, 25, 26, 27] (by decide +kernel) (by decide +kernel)
set_option maxRecDepth 20000 in
theorem gX3_board_X3_make : GoodIn wsX3_board (wsV RX3 53 RX3 yX3_make wsX3_make) := goodIn_app (goodIn_of _ (by decide +kernel)) ggX3_board_X3_make
theorem dX3_board_0 : decode cX3_board 0 = .ok (.iload_n 1, 1) := by decide +kernel
theorem dX3_board_1 : decode cX3_board 1 = .ok (.iconst 3, 1) := by decide +kernel
theorem dX3_board_2 : decode cX3_board 2 = .ok (.if_icmp .eq 14, 3) := by decide +kernel
theorem dX3_board_5 : decode cX3_board 5 = .ok (.iload_n 1, 1) := by decide +kernel
theorem dX3_board_6 : decode cX3_board 6 = .ok (.bipush 6, 2) := by decide +kernel
theorem dX3_board_8 : decode cX3_board 8 = .ok (.bipush 10, 2) := by decide +kernel
theorem dX3_board_10 : decode cX3_board 10 = .ok (.invokestatic 45, 3) := by decide +kernel
theorem dX3_board_13 : decode cX3_board 13 = .ok (.ifCond .eq 13, 3) := by decide +kernel
theorem dX3_board_16 : decode cX3_board 16 = .ok (.iload_n 2, 1) := by decide +kernel
theorem dX3_board_17 : decode cX3_board 17 = .ok (.iconst 0, 1) := by decide +kernel
theorem dX3_board_18 : decode cX3_board 18 = .ok (.bipush 8, 2) := by decide +kernel
theorem dX3_board_20 : decode cX3_board 20 = .ok (.invokestatic 45, 3) := by decide +kernel
theorem dX3_board_23 : decode cX3_board 23 = .ok (.ifCond .ne 6, 3) := by decide +kernel
theorem dX3_board_26 : decode cX3_board 26 = .ok (.bipush (-3), 2) := by decide +kernel
theorem dX3_board_28 : decode cX3_board 28 = .ok (.ireturn, 1) := by decide +kernel
theorem dX3_board_29 : decode cX3_board 29 = .ok (.aload_n 0, 1) := by decide +kernel
theorem dX3_board_30 : decode cX3_board 30 = .ok (.getfield 42, 3) := by decide +kernel
theorem dX3_board_33 : decode cX3_board 33 = .ok (.bipush 60, 2) := by decide +kernel
theorem dX3_board_35 : decode cX3_board 35 = .ok (.if_icmp .ne 8, 3) := by decide +kernel
theorem dX3_board_38 : decode cX3_board 38 = .ok (.bipush (-4), 2) := by decide +kernel
theorem dX3_board_40 : decode cX3_board 40 = .ok (.goto 9, 3) := by decide +kernel
theorem dX3_board_43 : decode cX3_board 43 = .ok (.aload_n 0, 1) := by decide +kernel
theorem dX3_board_44 : decode cX3_board 44 = .ok (.iload_n 1, 1) := by decide +kernel
theorem dX3_board_45 : decode cX3_board 45 = .ok (.iload_n 2, 1) := by decide +kernel
theorem dX3_board_46 : decode cX3_board 46 = .ok (.invokevirtual 53, 3) := by decide +kernel
theorem dX3_board_49 : decode cX3_board 49 = .ok (.ireturn, 1) := by decide +kernel
set_option maxRecDepth 20000 in
theorem ggX3_wire_X3_make : GoodIn wsX3_wire wsX3_make := goodIn_r _ [7, 1, 8, 9, 2, 10, 11, 12, 13, 14, 15, 16, 17, 18, 19, 20, 21, 22, 23, 24] (by decide +kernel) (by decide +kernel)
set_option maxRecDepth 20000 in
theorem gX3_wire_X3_make : GoodIn wsX3_wire (wsV RX3 53 RX3 yX3_make wsX3_make) := goodIn_app (goodIn_of _ (by decide +kernel)) ggX3_wire_X3_make
theorem dX3_wire_0 : decode cX3_wire 0 = .ok (.aload_n 0, 1) := by decide +kernel
theorem dX3_wire_1 : decode cX3_wire 1 = .ok (.getfield 42, 3) := by decide +kernel
theorem dX3_wire_4 : decode cX3_wire 4 = .ok (.bipush 60, 2) := by decide +kernel
theorem dX3_wire_6 : decode cX3_wire 6 = .ok (.if_icmp .ne 6, 3) := by decide +kernel
theorem dX3_wire_9 : decode cX3_wire 9 = .ok (.bipush (-4), 2) := by decide +kernel
theorem dX3_wire_11 : decode cX3_wire 11 = .ok (.ireturn, 1) := by decide +kernel
theorem dX3_wire_12 : decode cX3_wire 12 = .ok (.aload_n 0, 1) := by decide +kernel
theorem dX3_wire_13 : decode cX3_wire 13 = .ok (.iload_n 1, 1) := by decide +kernel
theorem dX3_wire_14 : decode cX3_wire 14 = .ok (.ifCond .eq 7, 3) := by decide +kernel
theorem dX3_wire_17 : decode cX3_wire 17 = .ok (.iconst 5, 1) := by decide +kernel
theorem dX3_wire_18 : decode cX3_wire 18 = .ok (.goto 4, 3) := by decide +kernel
theorem dX3_wire_21 : decode cX3_wire 21 = .ok (.iconst 4, 1) := by decide +kernel
theorem dX3_wire_22 : decode cX3_wire 22 = .ok (.iconst 0, 1) := by decide +kernel
theorem dX3_wire_23 : decode cX3_wire 23 = .ok (.invokevirtual 53, 3) := by decide +kernel
theorem dX3_wire_26 : decode cX3_wire 26 = .ok (.istore_n 3, 1) := by decide +kernel
theorem dX3_wire_27 : decode cX3_wire 27 = .ok (.aload_n 0, 1) := by decide +kernel
theorem dX3_wire_28 : decode cX3_wire 28 = .ok (.getfield 16, 3) := by decide +kernel
theorem dX3_wire_31 : decode cX3_wire 31 = .ok (.iload_n 3, 1) := by decide +kernel
theorem dX3_wire_32 : decode cX3_wire 32 = .ok (.iload_n 2, 1) := by decide +kernel
theorem dX3_wire_33 : decode cX3_wire 33 = .ok (.iastore, 1) := by decide +kernel
theorem dX3_wire_34 : decode cX3_wire 34 = .ok (.iload_n 3, 1) := by decide +kernel
theorem dX3_wire_35 : decode cX3_wire 35 = .ok (.ireturn, 1) := by decide +kernel
theorem dX3_isRow_0 : decode cX3_isRow 0 = .ok (.iload_n 1, 1) := by decide +kernel
theorem dX3_isRow_1 : decode cX3_isRow 1 = .ok (.ifCond .lt 17, 3) := by decide +kernel
theorem dX3_isRow_4 : decode cX3_isRow 4 = .ok (.aload_n 0, 1) := by decide +kernel
theorem dX3_isRow_5 : decode cX3_isRow 5 = .ok (.getfield 7, 3) := by decide +kernel
theorem dX3_isRow_8 : decode cX3_isRow 8 = .ok (.iload_n 1, 1) := by decide +kernel
theorem dX3_isRow_9 : decode cX3_isRow 9 = .ok (.iaload, 1) := by decide +kernel
theorem dX3_isRow_10 : decode cX3_isRow 10 = .ok (.iconst 2, 1) := by decide +kernel
theorem dX3_isRow_11 : decode cX3_isRow 11 = .ok (.if_icmp .gt 7, 3) := by decide +kernel
theorem dX3_isRow_14 : decode cX3_isRow 14 = .ok (.iconst 1, 1) := by decide +kernel
theorem dX3_isRow_15 : decode cX3_isRow 15 = .ok (.goto 4, 3) := by decide +kernel
theorem dX3_isRow_18 : decode cX3_isRow 18 = .ok (.iconst 0, 1) := by decide +kernel
theorem dX3_isRow_19 : decode cX3_isRow 19 = .ok (.ireturn, 1) := by decide +kernel
theorem dX3_cut_0 : decode cX3_cut 0 = .ok (.iload_n 0, 1) := by decide +kernel
theorem dX3_cut_1 : decode cX3_cut 1 = .ok (.ifCond .ne 10, 3) := by decide +kernel
theorem dX3_cut_4 : decode cX3_cut 4 = .ok (.lload_n 1, 1) := by decide +kernel
theorem dX3_cut_5 : decode cX3_cut 5 = .ok (.l2i, 1) := by decide +kernel
theorem dX3_cut_6 : decode cX3_cut 6 = .ok (.i2b, 1) := by decide +kernel
theorem dX3_cut_7 : decode cX3_cut 7 = .ok (.i2l, 1) := by decide +kernel
theorem dX3_cut_8 : decode cX3_cut 8 = .ok (.goto 15, 3) := by decide +kernel
theorem dX3_cut_11 : decode cX3_cut 11 = .ok (.iload_n 0, 1) := by decide +kernel
theorem dX3_cut_12 : decode cX3_cut 12 = .ok (.iconst 1, 1) := by decide +kernel
theorem dX3_cut_13 : decode cX3_cut 13 = .ok (.if_icmp .ne 9, 3) := by decide +kernel
theorem dX3_cut_16 : decode cX3_cut 16 = .ok (.lload_n 1, 1) := by decide +kernel
theorem dX3_cut_17 : decode cX3_cut 17 = .ok (.l2i, 1) := by decide +kernel
theorem dX3_cut_18 : decode cX3_cut 18 = .ok (.i2l, 1) := by decide +kernel
theorem dX3_cut_19 : decode cX3_cut 19 = .ok (.goto 4, 3) := by decide +kernel
theorem dX3_cut_22 : decode cX3_cut 22 = .ok (.lload_n 1, 1) := by decide +kernel
theorem dX3_cut_23 : decode cX3_cut 23 = .ok (.lreturn, 1) := by decide +kernel
set_option maxRecDepth 20000 in
theorem ggX3_set_X3_isValue : GoodIn wsX3_set wsX3_isValue := goodIn_r _ [8, 9, 10, 11, 7, 12, 20, 21, 22, 23, 24, 25, 26, 27, 28, 29, 30, 31, 32] (by decide +kernel) (by decide +kernel)
set_option maxRecDepth 20000 in
theorem gX3_set_X3_isValue : GoodIn wsX3_set (wsV RX3 57 RX3 yX3_isValue wsX3_isValue) := goodIn_app (goodIn_of _ (by decide +kernel)) ggX3_set_X3_isValue
set_option maxRecDepth 20000 in
theorem ggX3_set_X3_isRow : GoodIn wsX3_set wsX3_isRow := goodIn_r _ [16, 3, 20, 21, 22, 23, 24, 25, 26, 27, 28, 29, 30, 31, 32] (by decide +kernel) (by decide +kernel)
set_option maxRecDepth 20000 in
theorem gX3_set_X3_isRow : GoodIn wsX3_set (wsV RX3 61 RX3 yX3_isRow wsX3_isRow) := goodIn_app (goodIn_of _ (by decide +kernel)) ggX3_set_X3_isRow
set_option maxRecDepth 20000 in
theorem ggX3_set_X3_isIn : GoodIn wsX3_set wsX3_isIn := goodIn_r _ [12] (by decide +kernel) (by decide +kernel)
set_option maxRecDepth 20000 in
theorem gX3_set_X3_isIn : GoodIn wsX3_set (va_wsS RX3 45 yX3_isIn wsX3_isIn) := goodIn_app (goodIn_of _ (by decide +kernel)) ggX3_set_X3_isIn
set_option maxRecDepth 20000 in
theorem ggX3_set_X3_cut : GoodIn wsX3_set wsX3_cut := goodIn_r _ [19] (by decide +kernel) (by decide +kernel)
set_option maxRecDepth 20000 in
theorem gX3_set_X3_cut : GoodIn wsX3_set (va_wsS RX3 64 yX3_cut wsX3_cut) := goodIn_app (goodIn_of _ (by decide +kernel)) ggX3_set_X3_cut
theorem dX3_set_0 : decode cX3_set 0 = .ok (.aload_n 0, 1) := by decide +kernel
theorem dX3_set_1 : decode cX3_set 1 = .ok (.iload_n 1, 1) := by decide +kernel
theorem dX3_set_2 : decode cX3_set 2 = .ok (.invokevirtual 57, 3) := by decide +kernel
theorem dX3_set_5 : decode cX3_set 5 = .ok (.ifCond .eq 27, 3) := by decide +kernel
theorem dX3_set_8 : decode cX3_set 8 = .ok (.aload_n 0, 1) := by decide +kernel
theorem dX3_set_9 : decode cX3_set 9 = .ok (.iload_n 1, 1) := by decide +kernel
theorem dX3_set_10 : decode cX3_set 10 = .ok (.invokevirtual 61, 3) := by decide +kernel
theorem dX3_set_13 : decode cX3_set 13 = .ok (.ifCond .eq 19, 3) := by decide +kernel
theorem dX3_set_16 : decode cX3_set 16 = .ok (.iload_n 2, 1) := by decide +kernel
theorem dX3_set_17 : decode cX3_set 17 = .ok (.iconst 0, 1) := by decide +kernel
theorem dX3_set_18 : decode cX3_set 18 = .ok (.aload_n 0, 1) := by decide +kernel
theorem dX3_set_19 : decode cX3_set 19 = .ok (.getfield 13, 3) := by decide +kernel
theorem dX3_set_22 : decode cX3_set 22 = .ok (.iload_n 1, 1) := by decide +kernel
theorem dX3_set_23 : decode cX3_set 23 = .ok (.iaload, 1) := by decide +kernel
theorem dX3_set_24 : decode cX3_set 24 = .ok (.iconst 1, 1) := by decide +kernel
theorem dX3_set_25 : decode cX3_set 25 = .ok (.isub, 1) := by decide +kernel
theorem dX3_set_26 : decode cX3_set 26 = .ok (.invokestatic 45, 3) := by decide +kernel
theorem dX3_set_29 : decode cX3_set 29 = .ok (.ifCond .ne 6, 3) := by decide +kernel
theorem dX3_set_32 : decode cX3_set 32 = .ok (.bipush (-3), 2) := by decide +kernel
theorem dX3_set_34 : decode cX3_set 34 = .ok (.ireturn, 1) := by decide +kernel
theorem dX3_set_35 : decode cX3_set 35 = .ok (.aload_n 0, 1) := by decide +kernel
theorem dX3_set_36 : decode cX3_set 36 = .ok (.getfield 19, 3) := by decide +kernel
theorem dX3_set_39 : decode cX3_set 39 = .ok (.bipush 8, 2) := by decide +kernel
theorem dX3_set_41 : decode cX3_set 41 = .ok (.iload_n 1, 1) := by decide +kernel
theorem dX3_set_42 : decode cX3_set 42 = .ok (.imul, 1) := by decide +kernel
theorem dX3_set_43 : decode cX3_set 43 = .ok (.iload_n 2, 1) := by decide +kernel
theorem dX3_set_44 : decode cX3_set 44 = .ok (.iadd, 1) := by decide +kernel
theorem dX3_set_45 : decode cX3_set 45 = .ok (.aload_n 0, 1) := by decide +kernel
theorem dX3_set_46 : decode cX3_set 46 = .ok (.getfield 7, 3) := by decide +kernel
theorem dX3_set_49 : decode cX3_set 49 = .ok (.iload_n 1, 1) := by decide +kernel
theorem dX3_set_50 : decode cX3_set 50 = .ok (.iaload, 1) := by decide +kernel
theorem dX3_set_51 : decode cX3_set 51 = .ok (.lload_n 3, 1) := by decide +kernel
theorem dX3_set_52 : decode cX3_set 52 = .ok (.invokestatic 64, 3) := by decide +kernel
theorem dX3_set_55 : decode cX3_set 55 = .ok (.lastore, 1) := by decide +kernel
theorem dX3_set_56 : decode cX3_set 56 = .ok (.iconst 1, 1) := by decide +kernel
theorem dX3_set_57 : decode cX3_set 57 = .ok (.ireturn, 1) := by decide +kernel
set_option maxRecDepth 20000 in
theorem ggX3_number_X3_isValue : GoodIn wsX3_number wsX3_isValue := goodIn_r _ [8, 9, 10, 11, 7, 12, 25, 26, 27, 28, 29, 30, 31, 32, 33, 34, 35, 36, 37] (by decide +kernel) (by decide +kernel)
set_option maxRecDepth 20000 in
theorem gX3_number_X3_isValue : GoodIn wsX3_number (wsV RX3 57 RX3 yX3_isValue wsX3_isValue) := goodIn_app (goodIn_of _ (by decide +kernel)) ggX3_number_X3_isValue
set_option maxRecDepth 20000 in
theorem ggX3_number_X3_isOf : GoodIn wsX3_number wsX3_isOf := goodIn_r _ [16, 17, 18, 19, 7, 20, 25, 26, 27, 28, 29, 30, 31, 32, 33, 34, 35, 36, 37] (by decide +kernel) (by decide +kernel)
set_option maxRecDepth 20000 in
theorem gX3_number_X3_isOf : GoodIn wsX3_number (wsV RX3 68 RX3 yX3_isOf wsX3_isOf) := goodIn_app (goodIn_of _ (by decide +kernel)) ggX3_number_X3_isOf
set_option maxRecDepth 20000 in
theorem ggX3_number_X3_isRow : GoodIn wsX3_number wsX3_isRow := goodIn_r _ [24, 17, 25, 26, 27, 28, 29, 30, 31, 32, 33, 34, 35, 36, 37] (by decide +kernel) (by decide +kernel)
set_option maxRecDepth 20000 in
theorem gX3_number_X3_isRow : GoodIn wsX3_number (wsV RX3 61 RX3 yX3_isRow wsX3_isRow) := goodIn_app (goodIn_of _ (by decide +kernel)) ggX3_number_X3_isRow
set_option maxRecDepth 20000 in
theorem ggX3_number_X3_isIn : GoodIn wsX3_number wsX3_isIn := goodIn_r _ [12] (by decide +kernel) (by decide +kernel)
set_option maxRecDepth 20000 in
theorem gX3_number_X3_isIn : GoodIn wsX3_number (va_wsS RX3 45 yX3_isIn wsX3_isIn) := goodIn_app (goodIn_of _ (by decide +kernel)) ggX3_number_X3_isIn
theorem dX3_number_0 : decode cX3_number 0 = .ok (.aload_n 0, 1) := by decide +kernel
theorem dX3_number_1 : decode cX3_number 1 = .ok (.iload_n 1, 1) := by decide +kernel
theorem dX3_number_2 : decode cX3_number 2 = .ok (.invokevirtual 57, 3) := by decide +kernel
theorem dX3_number_5 : decode cX3_number 5 = .ok (.ifCond .ne 5, 3) := by decide +kernel
theorem dX3_number_8 : decode cX3_number 8 = .ok (.lconst 0, 1) := by decide +kernel
theorem dX3_number_9 : decode cX3_number 9 = .ok (.lreturn, 1) := by decide +kernel
theorem dX3_number_10 : decode cX3_number 10 = .ok (.aload_n 0, 1) := by decide +kernel
theorem dX3_number_11 : decode cX3_number 11 = .ok (.iload_n 1, 1) := by decide +kernel
theorem dX3_number_12 : decode cX3_number 12 = .ok (.iconst 4, 1) := by decide +kernel
theorem dX3_number_13 : decode cX3_number 13 = .ok (.invokevirtual 68, 3) := by decide +kernel
theorem dX3_number_16 : decode cX3_number 16 = .ok (.ifCond .eq 11, 3) := by decide +kernel
theorem dX3_number_19 : decode cX3_number 19 = .ok (.aload_n 0, 1) := by decide +kernel
theorem dX3_number_20 : decode cX3_number 20 = .ok (.getfield 16, 3) := by decide +kernel
theorem dX3_number_23 : decode cX3_number 23 = .ok (.iload_n 1, 1) := by decide +kernel
theorem dX3_number_24 : decode cX3_number 24 = .ok (.iaload, 1) := by decide +kernel
theorem dX3_number_25 : decode cX3_number 25 = .ok (.i2l, 1) := by decide +kernel
theorem dX3_number_26 : decode cX3_number 26 = .ok (.lreturn, 1) := by decide +kernel
theorem dX3_number_27 : decode cX3_number 27 = .ok (.aload_n 0, 1) := by decide +kernel
theorem dX3_number_28 : decode cX3_number 28 = .ok (.iload_n 1, 1) := by decide +kernel
theorem dX3_number_29 : decode cX3_number 29 = .ok (.invokevirtual 61, 3) := by decide +kernel
theorem dX3_number_32 : decode cX3_number 32 = .ok (.ifCond .eq 33, 3) := by decide +kernel
theorem dX3_number_35 : decode cX3_number 35 = .ok (.iload_n 2, 1) := by decide +kernel
theorem dX3_number_36 : decode cX3_number 36 = .ok (.iconst 0, 1) := by decide +kernel
theorem dX3_number_37 : decode cX3_number 37 = .ok (.aload_n 0, 1) := by decide +kernel
theorem dX3_number_38 : decode cX3_number 38 = .ok (.getfield 13, 3) := by decide +kernel
theorem dX3_number_41 : decode cX3_number 41 = .ok (.iload_n 1, 1) := by decide +kernel
theorem dX3_number_42 : decode cX3_number 42 = .ok (.iaload, 1) := by decide +kernel
theorem dX3_number_43 : decode cX3_number 43 = .ok (.iconst 1, 1) := by decide +kernel
theorem dX3_number_44 : decode cX3_number 44 = .ok (.isub, 1) := by decide +kernel
theorem dX3_number_45 : decode cX3_number 45 = .ok (.invokestatic 45, 3) := by decide +kernel
theorem dX3_number_48 : decode cX3_number 48 = .ok (.ifCond .eq 17, 3) := by decide +kernel
theorem dX3_number_51 : decode cX3_number 51 = .ok (.aload_n 0, 1) := by decide +kernel
theorem dX3_number_52 : decode cX3_number 52 = .ok (.getfield 19, 3) := by decide +kernel
theorem dX3_number_55 : decode cX3_number 55 = .ok (.bipush 8, 2) := by decide +kernel
theorem dX3_number_57 : decode cX3_number 57 = .ok (.iload_n 1, 1) := by decide +kernel
theorem dX3_number_58 : decode cX3_number 58 = .ok (.imul, 1) := by decide +kernel
theorem dX3_number_59 : decode cX3_number 59 = .ok (.iload_n 2, 1) := by decide +kernel
theorem dX3_number_60 : decode cX3_number 60 = .ok (.iadd, 1) := by decide +kernel
theorem dX3_number_61 : decode cX3_number 61 = .ok (.laload, 1) := by decide +kernel
theorem dX3_number_62 : decode cX3_number 62 = .ok (.goto 4, 3) := by decide +kernel
theorem dX3_number_65 : decode cX3_number 65 = .ok (.lconst 0, 1) := by decide +kernel
theorem dX3_number_66 : decode cX3_number 66 = .ok (.lreturn, 1) := by decide +kernel
theorem dX3_with_0 : decode cX3_with 0 = .ok (.bipush (-10), 2) := by decide +kernel
theorem dX3_with_2 : decode cX3_with 2 = .ok (.iload_n 0, 1) := by decide +kernel
theorem dX3_with_3 : decode cX3_with 3 = .ok (.isub, 1) := by decide +kernel
theorem dX3_with_4 : decode cX3_with 4 = .ok (.ireturn, 1) := by decide +kernel
theorem dX3_hasPlaces_0 : decode cX3_hasPlaces 0 = .ok (.aload_n 0, 1) := by decide +kernel
theorem dX3_hasPlaces_1 : decode cX3_hasPlaces 1 = .ok (.getfield 7, 3) := by decide +kernel
theorem dX3_hasPlaces_4 : decode cX3_hasPlaces 4 = .ok (.iload_n 1, 1) := by decide +kernel
theorem dX3_hasPlaces_5 : decode cX3_hasPlaces 5 = .ok (.iaload, 1) := by decide +kernel
theorem dX3_hasPlaces_6 : decode cX3_hasPlaces 6 = .ok (.iconst 3, 1) := by decide +kernel
theorem dX3_hasPlaces_7 : decode cX3_hasPlaces 7 = .ok (.if_icmp .eq 14, 3) := by decide +kernel
theorem dX3_hasPlaces_10 : decode cX3_hasPlaces 10 = .ok (.aload_n 0, 1) := by decide +kernel
theorem dX3_hasPlaces_11 : decode cX3_hasPlaces 11 = .ok (.getfield 7, 3) := by decide +kernel
theorem dX3_hasPlaces_14 : decode cX3_hasPlaces 14 = .ok (.iload_n 1, 1) := by decide +kernel
theorem dX3_hasPlaces_15 : decode cX3_hasPlaces 15 = .ok (.iaload, 1) := by decide +kernel
theorem dX3_hasPlaces_16 : decode cX3_hasPlaces 16 = .ok (.bipush 6, 2) := by decide +kernel
theorem dX3_hasPlaces_18 : decode cX3_hasPlaces 18 = .ok (.if_icmp .lt 7, 3) := by decide +kernel
theorem dX3_hasPlaces_21 : decode cX3_hasPlaces 21 = .ok (.iconst 1, 1) := by decide +kernel
theorem dX3_hasPlaces_22 : decode cX3_hasPlaces 22 = .ok (.goto 4, 3) := by decide +kernel
theorem dX3_hasPlaces_25 : decode cX3_hasPlaces 25 = .ok (.iconst 0, 1) := by decide +kernel
theorem dX3_hasPlaces_26 : decode cX3_hasPlaces 26 = .ok (.ireturn, 1) := by decide +kernel
set_option maxRecDepth 20000 in
theorem ggX3_takes_X3_isOf : GoodIn wsX3_takes wsX3_isOf := goodIn_r _ [6, 1, 7, 8, 5, 9, 10, 11, 12, 13, 14, 15, 16, 17, 18, 19, 20, 21, 22] (by decide +kernel) (by decide +kernel)
set_option maxRecDepth 20000 in
theorem gX3_takes_X3_isOf : GoodIn wsX3_takes (wsV RX3 68 RX3 yX3_isOf wsX3_isOf) := goodIn_app (goodIn_of _ (by decide +kernel)) ggX3_takes_X3_isOf
theorem dX3_takes_0 : decode cX3_takes 0 = .ok (.aload_n 0, 1) := by decide +kernel
theorem dX3_takes_1 : decode cX3_takes 1 = .ok (.getfield 7, 3) := by decide +kernel
theorem dX3_takes_4 : decode cX3_takes 4 = .ok (.iload_n 1, 1) := by decide +kernel
theorem dX3_takes_5 : decode cX3_takes 5 = .ok (.iaload, 1) := by decide +kernel
theorem dX3_takes_6 : decode cX3_takes 6 = .ok (.tableswitch 79 3 9 #[42, 79, 79, 49, 56, 63, 71], 42) := by decide +kernel
theorem dX3_takes_48 : decode cX3_takes 48 = .ok (.aload_n 0, 1) := by decide +kernel
theorem dX3_takes_49 : decode cX3_takes 49 = .ok (.iload_n 2, 1) := by decide +kernel
theorem dX3_takes_50 : decode cX3_takes 50 = .ok (.iconst 1, 1) := by decide +kernel
theorem dX3_takes_51 : decode cX3_takes 51 = .ok (.invokevirtual 68, 3) := by decide +kernel
theorem dX3_takes_54 : decode cX3_takes 54 = .ok (.ireturn, 1) := by decide +kernel
theorem dX3_takes_55 : decode cX3_takes 55 = .ok (.aload_n 0, 1) := by decide +kernel
theorem dX3_takes_56 : decode cX3_takes 56 = .ok (.iload_n 2, 1) := by decide +kernel
theorem dX3_takes_57 : decode cX3_takes 57 = .ok (.iconst 4, 1) := by decide +kernel
theorem dX3_takes_58 : decode cX3_takes 58 = .ok (.invokevirtual 68, 3) := by decide +kernel
theorem dX3_takes_61 : decode cX3_takes 61 = .ok (.ireturn, 1) := by decide +kernel
theorem dX3_takes_62 : decode cX3_takes 62 = .ok (.aload_n 0, 1) := by decide +kernel
theorem dX3_takes_63 : decode cX3_takes 63 = .ok (.iload_n 2, 1) := by decide +kernel
theorem dX3_takes_64 : decode cX3_takes 64 = .ok (.iconst 5, 1) := by decide +kernel
theorem dX3_takes_65 : decode cX3_takes 65 = .ok (.invokevirtual 68, 3) := by decide +kernel
theorem dX3_takes_68 : decode cX3_takes 68 = .ok (.ireturn, 1) := by decide +kernel
theorem dX3_takes_69 : decode cX3_takes 69 = .ok (.aload_n 0, 1) := by decide +kernel
theorem dX3_takes_70 : decode cX3_takes 70 = .ok (.iload_n 2, 1) := by decide +kernel
