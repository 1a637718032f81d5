theorem dX2_wire_1 : decode cX2_wire 1 = .ok (.getfield 10, 3) := by decide +kernel
theorem dX2_wire_4 : decode cX2_wire 4 = .ok (.iload_n 1, 1) := by decide +kernel
theorem dX2_wire_5 : decode cX2_wire 5 = .ok (.ifCond .eq 7, 3) := by decide +kernel
theorem dX2_wire_8 : decode cX2_wire 8 = .ok (.iconst 5, 1) := by decide +kernel
theorem dX2_wire_9 : decode cX2_wire 9 = .ok (.goto 4, 3) := by decide +kernel
theorem dX2_wire_12 : decode cX2_wire 12 = .ok (.iconst 4, 1) := by decide +kernel
theorem dX2_wire_13 : decode cX2_wire 13 = .ok (.iload_n 2, 1) := by decide +kernel
theorem dX2_wire_14 : decode cX2_wire 14 = .ok (.invokevirtual 44, 3) := by decide +kernel
theorem dX2_wire_17 : decode cX2_wire 17 = .ok (.ireturn, 1) := by decide +kernel
set_option maxRecDepth 20000 in
theorem ggX2_set_X1_isNumbers : GoodIn wsX2_set wsX1_isNumbers := goodIn_r _ [6, 7, 8, 9, 10, 5, 11, 12, 32, 33, 34, 35, 36] (by decide +kernel) (by decide +kernel)
set_option maxRecDepth 20000 in
theorem gX2_set_X1_isNumbers : GoodIn wsX2_set (wsV RX2 47 RX1 yX1_isNumbers wsX1_isNumbers) := goodIn_app (goodIn_of _ (by decide +kernel)) ggX2_set_X1_isNumbers
set_option maxRecDepth 20000 in
theorem ggX2_set_X1_hasPlace : GoodIn wsX2_set wsX1_hasPlace := goodIn_r _ [16, 12, 17, 32, 33, 34, 35, 36] (by decide +kernel) (by decide +kernel)
set_option maxRecDepth 20000 in
theorem gX2_set_X1_hasPlace : GoodIn wsX2_set (wsV RX2 50 RX1 yX1_hasPlace wsX1_hasPlace) := goodIn_app (goodIn_of _ (by decide +kernel)) ggX2_set_X1_hasPlace
set_option maxRecDepth 20000 in
theorem ggX2_set_X1_put : GoodIn wsX2_set wsX1_put := goodIn_r _ [21, 22, 7, 23, 14, 15, 5, 16, 12, 17, 24, 25, 26, 32, 33, 34, 35, 36] (by decide +kernel) (by decide +kernel)
set_option maxRecDepth 20000 in
theorem gX2_set_X1_put : GoodIn wsX2_set (wsV RX2 54 RX1 yX1_put wsX1_put) := goodIn_app (goodIn_of _ (by decide +kernel)) ggX2_set_X1_put
theorem dX2_set_0 : decode cX2_set 0 = .ok (.aload_n 0, 1) := by decide +kernel
theorem dX2_set_1 : decode cX2_set 1 = .ok (.getfield 10, 3) := by decide +kernel
theorem dX2_set_4 : decode cX2_set 4 = .ok (.iload_n 1, 1) := by decide +kernel
theorem dX2_set_5 : decode cX2_set 5 = .ok (.invokevirtual 47, 3) := by decide +kernel
theorem dX2_set_8 : decode cX2_set 8 = .ok (.ifCond .eq 15, 3) := by decide +kernel
theorem dX2_set_11 : decode cX2_set 11 = .ok (.aload_n 0, 1) := by decide +kernel
theorem dX2_set_12 : decode cX2_set 12 = .ok (.getfield 10, 3) := by decide +kernel
theorem dX2_set_15 : decode cX2_set 15 = .ok (.iload_n 1, 1) := by decide +kernel
theorem dX2_set_16 : decode cX2_set 16 = .ok (.iload_n 2, 1) := by decide +kernel
theorem dX2_set_17 : decode cX2_set 17 = .ok (.invokevirtual 50, 3) := by decide +kernel
theorem dX2_set_20 : decode cX2_set 20 = .ok (.ifCond .ne 6, 3) := by decide +kernel
theorem dX2_set_23 : decode cX2_set 23 = .ok (.bipush (-3), 2) := by decide +kernel
theorem dX2_set_25 : decode cX2_set 25 = .ok (.ireturn, 1) := by decide +kernel
theorem dX2_set_26 : decode cX2_set 26 = .ok (.aload_n 0, 1) := by decide +kernel
theorem dX2_set_27 : decode cX2_set 27 = .ok (.getfield 10, 3) := by decide +kernel
theorem dX2_set_30 : decode cX2_set 30 = .ok (.iload_n 1, 1) := by decide +kernel
theorem dX2_set_31 : decode cX2_set 31 = .ok (.iload_n 2, 1) := by decide +kernel
theorem dX2_set_32 : decode cX2_set 32 = .ok (.lload_n 3, 1) := by decide +kernel
theorem dX2_set_33 : decode cX2_set 33 = .ok (.invokevirtual 54, 3) := by decide +kernel
theorem dX2_set_36 : decode cX2_set 36 = .ok (.iconst 1, 1) := by decide +kernel
theorem dX2_set_37 : decode cX2_set 37 = .ok (.ireturn, 1) := by decide +kernel
set_option maxRecDepth 20000 in
theorem ggX2_number_X1_isA : GoodIn wsX2_number wsX1_isA := goodIn_r _ [6, 7, 8, 9, 10, 5, 11, 12, 13, 14, 15, 40, 41, 42, 43, 44] (by decide +kernel) (by decide +kernel)
set_option maxRecDepth 20000 in
theorem gX2_number_X1_isA : GoodIn wsX2_number (wsV RX2 58 RX1 yX1_isA wsX1_isA) := goodIn_app (goodIn_of _ (by decide +kernel)) ggX2_number_X1_isA
set_option maxRecDepth 20000 in
theorem ggX2_number_X1_levelOf : GoodIn wsX2_number wsX1_levelOf := goodIn_r _ [19, 20, 8, 9, 10, 5, 11, 12, 40, 41, 42, 43, 44] (by decide +kernel) (by decide +kernel)
set_option maxRecDepth 20000 in
theorem gX2_number_X1_levelOf : GoodIn wsX2_number (wsV RX2 61 RX1 yX1_levelOf wsX1_levelOf) := goodIn_app (goodIn_of _ (by decide +kernel)) ggX2_number_X1_levelOf
set_option maxRecDepth 20000 in
theorem ggX2_number_X1_isNumbers : GoodIn wsX2_number wsX1_isNumbers := goodIn_r _ [24, 7, 8, 9, 10, 5, 11, 12, 40, 41, 42, 43, 44] (by decide +kernel) (by decide +kernel)
set_option maxRecDepth 20000 in
theorem gX2_number_X1_isNumbers : GoodIn wsX2_number (wsV RX2 47 RX1 yX1_isNumbers wsX1_isNumbers) := goodIn_app (goodIn_of _ (by decide +kernel)) ggX2_number_X1_isNumbers
set_option maxRecDepth 20000 in
theorem ggX2_number_X1_cellOf : GoodIn wsX2_number wsX1_cellOf := goodIn_r _ [28, 29, 30, 31, 32, 5, 33, 12, 34, 40, 41, 42, 43, 44] (by decide +kernel) (by decide +kernel)
set_option maxRecDepth 20000 in
theorem gX2_number_X1_cellOf : GoodIn wsX2_number (wsV RX2 65 RX1 yX1_cellOf wsX1_cellOf) := goodIn_app (goodIn_of _ (by decide +kernel)) ggX2_number_X1_cellOf
theorem dX2_number_0 : decode cX2_number 0 = .ok (.aload_n 0, 1) := by decide +kernel
theorem dX2_number_1 : decode cX2_number 1 = .ok (.getfield 10, 3) := by decide +kernel
theorem dX2_number_4 : decode cX2_number 4 = .ok (.iload_n 1, 1) := by decide +kernel
theorem dX2_number_5 : decode cX2_number 5 = .ok (.iconst 4, 1) := by decide +kernel
theorem dX2_number_6 : decode cX2_number 6 = .ok (.invokevirtual 58, 3) := by decide +kernel
theorem dX2_number_9 : decode cX2_number 9 = .ok (.ifCond .eq 13, 3) := by decide +kernel
theorem dX2_number_12 : decode cX2_number 12 = .ok (.aload_n 0, 1) := by decide +kernel
theorem dX2_number_13 : decode cX2_number 13 = .ok (.getfield 10, 3) := by decide +kernel
theorem dX2_number_16 : decode cX2_number 16 = .ok (.iload_n 1, 1) := by decide +kernel
theorem dX2_number_17 : decode cX2_number 17 = .ok (.invokevirtual 61, 3) := by decide +kernel
theorem dX2_number_20 : decode cX2_number 20 = .ok (.i2l, 1) := by decide +kernel
theorem dX2_number_21 : decode cX2_number 21 = .ok (.lreturn, 1) := by decide +kernel
theorem dX2_number_22 : decode cX2_number 22 = .ok (.aload_n 0, 1) := by decide +kernel
theorem dX2_number_23 : decode cX2_number 23 = .ok (.getfield 10, 3) := by decide +kernel
theorem dX2_number_26 : decode cX2_number 26 = .ok (.iload_n 1, 1) := by decide +kernel
theorem dX2_number_27 : decode cX2_number 27 = .ok (.invokevirtual 47, 3) := by decide +kernel
theorem dX2_number_30 : decode cX2_number 30 = .ok (.ifCond .eq 15, 3) := by decide +kernel
theorem dX2_number_33 : decode cX2_number 33 = .ok (.aload_n 0, 1) := by decide +kernel
theorem dX2_number_34 : decode cX2_number 34 = .ok (.getfield 10, 3) := by decide +kernel
theorem dX2_number_37 : decode cX2_number 37 = .ok (.iload_n 1, 1) := by decide +kernel
theorem dX2_number_38 : decode cX2_number 38 = .ok (.iload_n 2, 1) := by decide +kernel
theorem dX2_number_39 : decode cX2_number 39 = .ok (.invokevirtual 65, 3) := by decide +kernel
theorem dX2_number_42 : decode cX2_number 42 = .ok (.goto 4, 3) := by decide +kernel
theorem dX2_number_45 : decode cX2_number 45 = .ok (.lconst 0, 1) := by decide +kernel
theorem dX2_number_46 : decode cX2_number 46 = .ok (.lreturn, 1) := by decide +kernel
set_option maxRecDepth 20000 in
theorem ggX2_act_X2_isAct : GoodIn wsX2_act wsX2_isAct := goodIn_r _ [4] (by decide +kernel) (by decide +kernel)
set_option maxRecDepth 20000 in
theorem gX2_act_X2_isAct : GoodIn wsX2_act (va_wsS RX2 69 yX2_isAct wsX2_isAct) := goodIn_app (goodIn_of _ (by decide +kernel)) ggX2_act_X2_isAct
set_option maxRecDepth 20000 in
theorem ggX2_act_X2_isValueOrNone : GoodIn wsX2_act wsX2_isValueOrNone := goodIn_r _ [8, 9, 10, 11, 12, 13, 14, 15, 197, 198, 199, 200, 201, 202, 203, 204, 205, 206] (by decide +kernel) (by decide +kernel)
set_option maxRecDepth 20000 in
theorem gX2_act_X2_isValueOrNone : GoodIn wsX2_act (wsV RX2 72 RX2 yX2_isValueOrNone wsX2_isValueOrNone) := goodIn_app (goodIn_of _ (by decide +kernel)) ggX2_act_X2_isValueOrNone
set_option maxRecDepth 20000 in
theorem ggX2_act_X2_answerOf : GoodIn wsX2_act wsX2_answerOf := goodIn_r _ [19, 9, 20, 21, 22, 13, 23, 15, 24, 25, 26, 3, 27, 28, 29, 30, 31, 32, 33, 11, 12, 14, 34, 35, 36, 37, 38, 39, 40, 41, 42, 43, 44, 45, 46, 47, 48, 49, 50, 51, 52, 53, 54, 55, 56, 57, 58, 59, 60, 61, 62, 63, 64, 65, 66, 67, 68, 69, 70, 71, 72, 73, 74, 75, 76, 77, 78, 79, 80, 81, 82, 83, 84, 85, 86, 87, 88, 89, 90, 91, 92, 93, 94, 95, 96, 97, 98, 99, 100, 101, 102, 103, 104, 105, 106, 107, 108, 109, 110, 111, 112, 113, 114, 115, 116, 117, 118, 119, 120, 121, 122, 123, 124, 125, 126, 127, 128, 129, 130, 131, 132, 133, 134, 135, 136, 137, 138, 139, 140, 141, 142, 143, 144, 145, 146, 147, 148, 149, 150, 151, 152, 153, 154, 155, 156, 157, 158, 159, 160, 161, 162, 163, 164, 165, 166, 167, 168, 169, 170, 171, 172, 173, 174, 175, 176, 177, 178, 179, 180, 181, 182, 183, 184, 185, 186, 187, 197, 198, 199, 200, 201, 202, 203, 204, 205, 206] (by decide +kernel) (by decide +kernel)
set_option maxRecDepth 20000 in
theorem gX2_act_X2_answerOf : GoodIn wsX2_act (wsV RX2 75 RX2 yX2_answerOf wsX2_answerOf) := goodIn_app (goodIn_of _ (by decide +kernel)) ggX2_act_X2_answerOf
set_option maxRecDepth 20000 in
theorem ggX2_act_X2_noted : GoodIn wsX2_act wsX2_noted := goodIn_r _ [191, 192, 193, 194, 195, 3, 196, 197, 198, 199, 200, 201] (by decide +kernel) (by decide +kernel)
set_option maxRecDepth 20000 in
theorem gX2_act_X2_noted : GoodIn wsX2_act (wsV RX2 79 RX2 yX2_noted wsX2_noted) := goodIn_app (goodIn_of _ (by decide +kernel)) ggX2_act_X2_noted
theorem dX2_act_0 : decode cX2_act 0 = .ok (.iload_n 1, 1) := by decide +kernel
theorem dX2_act_1 : decode cX2_act 1 = .ok (.invokestatic 69, 3) := by decide +kernel
theorem dX2_act_4 : decode cX2_act 4 = .ok (.ifCond .eq 19, 3) := by decide +kernel
theorem dX2_act_7 : decode cX2_act 7 = .ok (.aload_n 0, 1) := by decide +kernel
theorem dX2_act_8 : decode cX2_act 8 = .ok (.iload_n 2, 1) := by decide +kernel
theorem dX2_act_9 : decode cX2_act 9 = .ok (.invokevirtual 72, 3) := by decide +kernel
theorem dX2_act_12 : decode cX2_act 12 = .ok (.ifCond .eq 11, 3) := by decide +kernel
theorem dX2_act_15 : decode cX2_act 15 = .ok (.aload_n 0, 1) := by decide +kernel
theorem dX2_act_16 : decode cX2_act 16 = .ok (.iload_n 3, 1) := by decide +kernel
theorem dX2_act_17 : decode cX2_act 17 = .ok (.invokevirtual 72, 3) := by decide +kernel
theorem dX2_act_20 : decode cX2_act 20 = .ok (.ifCond .ne 6, 3) := by decide +kernel
theorem dX2_act_23 : decode cX2_act 23 = .ok (.bipush (-3), 2) := by decide +kernel
theorem dX2_act_25 : decode cX2_act 25 = .ok (.ireturn, 1) := by decide +kernel
theorem dX2_act_26 : decode cX2_act 26 = .ok (.aload_n 0, 1) := by decide +kernel
theorem dX2_act_27 : decode cX2_act 27 = .ok (.aload_n 0, 1) := by decide +kernel
theorem dX2_act_28 : decode cX2_act 28 = .ok (.iload_n 1, 1) := by decide +kernel
theorem dX2_act_29 : decode cX2_act 29 = .ok (.iload_n 2, 1) := by decide +kernel
theorem dX2_act_30 : decode cX2_act 30 = .ok (.iload_n 3, 1) := by decide +kernel
theorem dX2_act_31 : decode cX2_act 31 = .ok (.iload 4, 2) := by decide +kernel
theorem dX2_act_33 : decode cX2_act 33 = .ok (.invokevirtual 75, 3) := by decide +kernel
theorem dX2_act_36 : decode cX2_act 36 = .ok (.invokevirtual 79, 3) := by decide +kernel
theorem dX2_act_39 : decode cX2_act 39 = .ok (.ireturn, 1) := by decide +kernel
set_option maxRecDepth 20000 in
theorem ggX2_step_X2_isValueOrNone : GoodIn wsX2_step wsX2_isValueOrNone := goodIn_r _ [6, 7, 8, 9, 10, 11, 12, 13, 31, 32, 33, 34, 35, 36, 37, 38, 39, 40] (by decide +kernel) (by decide +kernel)
set_option maxRecDepth 20000 in
theorem gX2_step_X2_isValueOrNone : GoodIn wsX2_step (wsV RX2 72 RX2 yX2_isValueOrNone wsX2_isValueOrNone) := goodIn_app (goodIn_of _ (by decide +kernel)) ggX2_step_X2_isValueOrNone
set_option maxRecDepth 20000 in
theorem ggX2_step_X0_has : GoodIn wsX2_step wsX0_has := goodIn_r _ [18] (by decide +kernel) (by decide +kernel)
set_option maxRecDepth 20000 in
theorem gX2_step_X0_has : GoodIn wsX2_step (wsV RX2 82 RX0 yX0_has wsX0_has) := goodIn_app (goodIn_of _ (by decide +kernel)) ggX2_step_X0_has
set_option maxRecDepth 20000 in
theorem ggX2_step_X2_isAct : GoodIn wsX2_step wsX2_isAct := goodIn_r _ [21] (by decide +kernel) (by decide +kernel)
set_option maxRecDepth 20000 in
theorem gX2_step_X2_isAct : GoodIn wsX2_step (va_wsS RX2 69 yX2_isAct wsX2_isAct) := goodIn_app (goodIn_of _ (by decide +kernel)) ggX2_step_X2_isAct
set_option maxRecDepth 20000 in
theorem ggX2_step_X0_append : GoodIn wsX2_step wsX0_append := goodIn_r _ [25, 26, 27, 28, 29, 30, 15, 16, 17, 18, 41, 42, 43, 44] (by decide +kernel) (by decide +kernel)
set_option maxRecDepth 20000 in
theorem gX2_step_X0_append : GoodIn wsX2_step (wsV RX2 85 RX0 yX0_append wsX0_append) := goodIn_app (goodIn_of _ (by decide +kernel)) ggX2_step_X0_append
theorem dX2_step_0 : decode cX2_step 0 = .ok (.iload_n 3, 1) := by decide +kernel
theorem dX2_step_1 : decode cX2_step 1 = .ok (.bipush (-2), 2) := by decide +kernel
theorem dX2_step_3 : decode cX2_step 3 = .ok (.if_icmp .eq 11, 3) := by decide +kernel
theorem dX2_step_6 : decode cX2_step 6 = .ok (.aload_n 0, 1) := by decide +kernel
theorem dX2_step_7 : decode cX2_step 7 = .ok (.iload_n 3, 1) := by decide +kernel
theorem dX2_step_8 : decode cX2_step 8 = .ok (.invokevirtual 72, 3) := by decide +kernel
theorem dX2_step_11 : decode cX2_step 11 = .ok (.ifCond .eq 7, 3) := by decide +kernel
theorem dX2_step_14 : decode cX2_step 14 = .ok (.iconst 1, 1) := by decide +kernel
theorem dX2_step_15 : decode cX2_step 15 = .ok (.goto 4, 3) := by decide +kernel
theorem dX2_step_18 : decode cX2_step 18 = .ok (.iconst 0, 1) := by decide +kernel
theorem dX2_step_19 : decode cX2_step 19 = .ok (.istore 5, 2) := by decide +kernel
theorem dX2_step_21 : decode cX2_step 21 = .ok (.aload_n 0, 1) := by decide +kernel
theorem dX2_step_22 : decode cX2_step 22 = .ok (.getfield 19, 3) := by decide +kernel
theorem dX2_step_25 : decode cX2_step 25 = .ok (.iload_n 1, 1) := by decide +kernel
theorem dX2_step_26 : decode cX2_step 26 = .ok (.invokevirtual 82, 3) := by decide +kernel
theorem dX2_step_29 : decode cX2_step 29 = .ok (.ifCond .eq 15, 3) := by decide +kernel
theorem dX2_step_32 : decode cX2_step 32 = .ok (.iload_n 2, 1) := by decide +kernel
theorem dX2_step_33 : decode cX2_step 33 = .ok (.invokestatic 69, 3) := by decide +kernel
theorem dX2_step_36 : decode cX2_step 36 = .ok (.ifCond .eq 8, 3) := by decide +kernel
theorem dX2_step_39 : decode cX2_step 39 = .ok (.iload 5, 2) := by decide +kernel
theorem dX2_step_41 : decode cX2_step 41 = .ok (.ifCond .ne 6, 3) := by decide +kernel
theorem dX2_step_44 : decode cX2_step 44 = .ok (.bipush (-3), 2) := by decide +kernel
theorem dX2_step_46 : decode cX2_step 46 = .ok (.ireturn, 1) := by decide +kernel
theorem dX2_step_47 : decode cX2_step 47 = .ok (.aload_n 0, 1) := by decide +kernel
theorem dX2_step_48 : decode cX2_step 48 = .ok (.getfield 19, 3) := by decide +kernel
theorem dX2_step_51 : decode cX2_step 51 = .ok (.iload_n 1, 1) := by decide +kernel
theorem dX2_step_52 : decode cX2_step 52 = .ok (.iload_n 2, 1) := by decide +kernel
theorem dX2_step_53 : decode cX2_step 53 = .ok (.iload_n 3, 1) := by decide +kernel
theorem dX2_step_54 : decode cX2_step 54 = .ok (.iload 4, 2) := by decide +kernel
theorem dX2_step_56 : decode cX2_step 56 = .ok (.invokevirtual 85, 3) := by decide +kernel
theorem dX2_step_59 : decode cX2_step 59 = .ok (.ireturn, 1) := by decide +kernel
set_option maxRecDepth 20000 in
theorem ggX2_play_X0_has : GoodIn wsX2_play wsX0_has := goodIn_r _ [7] (by decide +kernel) (by decide +kernel)
set_option maxRecDepth 20000 in
theorem gX2_play_X0_has : GoodIn wsX2_play (wsV RX2 82 RX0 yX0_has wsX0_has) := goodIn_app (goodIn_of _ (by decide +kernel)) ggX2_play_X0_has
set_option maxRecDepth 20000 in
theorem ggX2_play_X2_isValueOrNone : GoodIn wsX2_play wsX2_isValueOrNone := goodIn_r _ [12, 13, 14, 15, 16, 17, 18, 19, 226, 227, 228, 229, 230, 231, 232, 233, 234, 235] (by decide +kernel) (by decide +kernel)
set_option maxRecDepth 20000 in
theorem gX2_play_X2_isValueOrNone : GoodIn wsX2_play (wsV RX2 72 RX2 yX2_isValueOrNone wsX2_isValueOrNone) := goodIn_app (goodIn_of _ (by decide +kernel)) ggX2_play_X2_isValueOrNone
set_option maxRecDepth 20000 in
theorem ggX2_play_X0_lengthOf : GoodIn wsX2_play wsX0_lengthOf := goodIn_r _ [23, 24, 25, 4, 5, 6, 7, 236, 237, 238, 239] (by decide +kernel) (by decide +kernel)
set_option maxRecDepth 20000 in
theorem gX2_play_X0_lengthOf : GoodIn wsX2_play (wsV RX2 88 RX0 yX0_lengthOf wsX0_lengthOf) := goodIn_app (goodIn_of _ (by decide +kernel)) ggX2_play_X0_lengthOf
set_option maxRecDepth 20000 in
theorem ggX2_play_X0_actOf : GoodIn wsX2_play wsX0_actOf := goodIn_r _ [29, 30, 31, 32, 33, 6, 34, 24, 25, 4, 5, 7, 236, 237, 238, 239] (by decide +kernel) (by decide +kernel)
set_option maxRecDepth 20000 in
theorem gX2_play_X0_actOf : GoodIn wsX2_play (wsV RX2 91 RX0 yX0_actOf wsX0_actOf) := goodIn_app (goodIn_of _ (by decide +kernel)) ggX2_play_X0_actOf
set_option maxRecDepth 20000 in
theorem ggX2_play_X0_yOf : GoodIn wsX2_play wsX0_yOf := goodIn_r _ [38, 39, 31, 32, 33, 6, 34, 24, 25, 4, 5, 7, 236, 237, 238, 239] (by decide +kernel) (by decide +kernel)
set_option maxRecDepth 20000 in
theorem gX2_play_X0_yOf : GoodIn wsX2_play (wsV RX2 94 RX0 yX0_yOf wsX0_yOf) := goodIn_app (goodIn_of _ (by decide +kernel)) ggX2_play_X0_yOf
set_option maxRecDepth 20000 in
theorem ggX2_play_X0_nOf : GoodIn wsX2_play wsX0_nOf := goodIn_r _ [43, 44, 31, 32, 33, 6, 34, 24, 25, 4, 5, 7, 236, 237, 238, 239] (by decide +kernel) (by decide +kernel)
set_option maxRecDepth 20000 in
theorem gX2_play_X0_nOf : GoodIn wsX2_play (wsV RX2 97 RX0 yX0_nOf wsX0_nOf) := goodIn_app (goodIn_of _ (by decide +kernel)) ggX2_play_X0_nOf
set_option maxRecDepth 20000 in
theorem ggX2_play_X2_answerOf : GoodIn wsX2_play wsX2_answerOf := goodIn_r _ [48, 13, 49, 50, 51, 17, 52, 19, 53, 54, 55, 11, 56, 57, 58, 59, 60, 61, 62, 15, 16, 18, 63, 64, 65, 66, 67, 68, 69, 70, 71, 72, 73, 74, 75, 76, 77, 78, 79, 80, 81, 82, 83, 84, 85, 86, 87, 88, 89, 90, 91, 92, 93, 94, 95, 96, 97, 98, 99, 100, 101, 102, 103, 104, 105, 106, 107, 108, 109, 110, 111, 112, 113, 114, 115, 116, 117, 118, 119, 120, 121, 122, 123, 124, 125, 126, 127, 128, 129, 130, 131, 132, 133, 134, 135, 136, 137, 138, 139, 140, 141, 142, 143, 144, 145, 146, 147, 148, 149, 150, 151, 152, 153, 154, 155, 156, 157, 158, 159, 160, 161, 162, 163, 164, 165, 166, 167, 168, 169, 170, 171, 172, 173, 174, 175, 176, 177, 178, 179, 180, 181, 182, 183, 184, 185, 186, 187, 188, 189, 190, 191, 192, 193, 194, 195, 196, 197, 198, 199, 200, 201, 202, 203, 204, 205, 206, 207, 208, 209, 210, 211, 212, 213, 214, 215, 216, 226, 227, 228, 229, 230, 231, 232, 233, 234, 235] (by decide +kernel) (by decide +kernel)
set_option maxRecDepth 20000 in
theorem gX2_play_X2_answerOf : GoodIn wsX2_play (wsV RX2 75 RX2 yX2_answerOf wsX2_answerOf) := goodIn_app (goodIn_of _ (by decide +kernel)) ggX2_play_X2_answerOf
set_option maxRecDepth 20000 in
theorem ggX2_play_X2_noted : GoodIn wsX2_play wsX2_noted := goodIn_r _ [220, 221, 222, 223, 224, 11, 225, 226, 227, 228, 229, 230] (by decide +kernel) (by decide +kernel)
set_option maxRecDepth 20000 in
theorem gX2_play_X2_noted : GoodIn wsX2_play (wsV RX2 79 RX2 yX2_noted wsX2_noted) := goodIn_app (goodIn_of _ (by decide +kernel)) ggX2_play_X2_noted
set_option maxRecDepth 20000 in
theorem ggX2_play_X2_isFault : GoodIn wsX2_play wsX2_isFault := goodIn_r _ [225] (by decide +kernel) (by decide +kernel)
set_option maxRecDepth 20000 in
theorem gX2_play_X2_isFault : GoodIn wsX2_play (va_wsS RX2 100 yX2_isFault wsX2_isFault) := goodIn_app (goodIn_of _ (by decide +kernel)) ggX2_play_X2_isFault
theorem dX2_play_0 : decode cX2_play 0 = .ok (.aload_n 0, 1) := by decide +kernel
theorem dX2_play_1 : decode cX2_play 1 = .ok (.getfield 19, 3) := by decide +kernel
theorem dX2_play_4 : decode cX2_play 4 = .ok (.iload_n 1, 1) := by decide +kernel
theorem dX2_play_5 : decode cX2_play 5 = .ok (.invokevirtual 82, 3) := by decide +kernel
theorem dX2_play_8 : decode cX2_play 8 = .ok (.ifCond .eq 11, 3) := by decide +kernel
theorem dX2_play_11 : decode cX2_play 11 = .ok (.aload_n 0, 1) := by decide +kernel
theorem dX2_play_12 : decode cX2_play 12 = .ok (.iload_n 2, 1) := by decide +kernel
theorem dX2_play_13 : decode cX2_play 13 = .ok (.invokevirtual 72, 3) := by decide +kernel
theorem dX2_play_16 : decode cX2_play 16 = .ok (.ifCond .ne 6, 3) := by decide +kernel
theorem dX2_play_19 : decode cX2_play 19 = .ok (.bipush (-3), 2) := by decide +kernel
theorem dX2_play_21 : decode cX2_play 21 = .ok (.ireturn, 1) := by decide +kernel
theorem dX2_play_22 : decode cX2_play 22 = .ok (.aload_n 0, 1) := by decide +kernel
theorem dX2_play_23 : decode cX2_play 23 = .ok (.iconst (-1), 1) := by decide +kernel
theorem dX2_play_24 : decode cX2_play 24 = .ok (.putfield 23, 3) := by decide +kernel
theorem dX2_play_27 : decode cX2_play 27 = .ok (.iload_n 2, 1) := by decide +kernel
theorem dX2_play_28 : decode cX2_play 28 = .ok (.istore_n 3, 1) := by decide +kernel
theorem dX2_play_29 : decode cX2_play 29 = .ok (.aload_n 0, 1) := by decide +kernel
theorem dX2_play_30 : decode cX2_play 30 = .ok (.getfield 19, 3) := by decide +kernel
theorem dX2_play_33 : decode cX2_play 33 = .ok (.iload_n 1, 1) := by decide +kernel
theorem dX2_play_34 : decode cX2_play 34 = .ok (.invokevirtual 88, 3) := by decide +kernel
theorem dX2_play_37 : decode cX2_play 37 = .ok (.istore 4, 2) := by decide +kernel
theorem dX2_play_39 : decode cX2_play 39 = .ok (.iconst 0, 1) := by decide +kernel
theorem dX2_play_40 : decode cX2_play 40 = .ok (.istore 5, 2) := by decide +kernel
theorem dX2_play_42 : decode cX2_play 42 = .ok (.iload 5, 2) := by decide +kernel
theorem dX2_play_44 : decode cX2_play 44 = .ok (.iload 4, 2) := by decide +kernel
theorem dX2_play_46 : decode cX2_play 46 = .ok (.if_icmp .ge 83, 3) := by decide +kernel
theorem dX2_play_49 : decode cX2_play 49 = .ok (.aload_n 0, 1) := by decide +kernel
theorem dX2_play_50 : decode cX2_play 50 = .ok (.getfield 19, 3) := by decide +kernel
theorem dX2_play_53 : decode cX2_play 53 = .ok (.iload_n 1, 1) := by decide +kernel
theorem dX2_play_54 : decode cX2_play 54 = .ok (.iload 5, 2) := by decide +kernel
theorem dX2_play_56 : decode cX2_play 56 = .ok (.invokevirtual 91, 3) := by decide +kernel
theorem dX2_play_59 : decode cX2_play 59 = .ok (.istore 6, 2) := by decide +kernel
theorem dX2_play_61 : decode cX2_play 61 = .ok (.aload_n 0, 1) := by decide +kernel
theorem dX2_play_62 : decode cX2_play 62 = .ok (.getfield 19, 3) := by decide +kernel
theorem dX2_play_65 : decode cX2_play 65 = .ok (.iload_n 1, 1) := by decide +kernel
theorem dX2_play_66 : decode cX2_play 66 = .ok (.iload 5, 2) := by decide +kernel
theorem dX2_play_68 : decode cX2_play 68 = .ok (.invokevirtual 94, 3) := by decide +kernel
theorem dX2_play_71 : decode cX2_play 71 = .ok (.istore 7, 2) := by decide +kernel
theorem dX2_play_73 : decode cX2_play 73 = .ok (.aload_n 0, 1) := by decide +kernel
theorem dX2_play_74 : decode cX2_play 74 = .ok (.aload_n 0, 1) := by decide +kernel
theorem dX2_play_75 : decode cX2_play 75 = .ok (.iload 6, 2) := by decide +kernel
theorem dX2_play_77 : decode cX2_play 77 = .ok (.iload_n 3, 1) := by decide +kernel
theorem dX2_play_78 : decode cX2_play 78 = .ok (.iload 7, 2) := by decide +kernel
theorem dX2_play_80 : decode cX2_play 80 = .ok (.bipush (-2), 2) := by decide +kernel
theorem dX2_play_82 : decode cX2_play 82 = .ok (.if_icmp .ne 7, 3) := by decide +kernel
theorem dX2_play_85 : decode cX2_play 85 = .ok (.iload_n 2, 1) := by decide +kernel
theorem dX2_play_86 : decode cX2_play 86 = .ok (.goto 5, 3) := by decide +kernel
theorem dX2_play_89 : decode cX2_play 89 = .ok (.iload 7, 2) := by decide +kernel
theorem dX2_play_91 : decode cX2_play 91 = .ok (.aload_n 0, 1) := by decide +kernel
theorem dX2_play_92 : decode cX2_play 92 = .ok (.getfield 19, 3) := by decide +kernel
theorem dX2_play_95 : decode cX2_play 95 = .ok (.iload_n 1, 1) := by decide +kernel
theorem dX2_play_96 : decode cX2_play 96 = .ok (.iload 5, 2) := by decide +kernel
theorem dX2_play_98 : decode cX2_play 98 = .ok (.invokevirtual 97, 3) := by decide +kernel
theorem dX2_play_101 : decode cX2_play 101 = .ok (.invokevirtual 75, 3) := by decide +kernel
theorem dX2_play_104 : decode cX2_play 104 = .ok (.invokevirtual 79, 3) := by decide +kernel
theorem dX2_play_107 : decode cX2_play 107 = .ok (.istore_n 3, 1) := by decide +kernel
theorem dX2_play_108 : decode cX2_play 108 = .ok (.iload_n 3, 1) := by decide +kernel
theorem dX2_play_109 : decode cX2_play 109 = .ok (.invokestatic 100, 3) := by decide +kernel
theorem dX2_play_112 : decode cX2_play 112 = .ok (.ifCond .eq 11, 3) := by decide +kernel
theorem dX2_play_115 : decode cX2_play 115 = .ok (.aload_n 0, 1) := by decide +kernel
theorem dX2_play_116 : decode cX2_play 116 = .ok (.iload 5, 2) := by decide +kernel
theorem dX2_play_118 : decode cX2_play 118 = .ok (.putfield 23, 3) := by decide +kernel
theorem dX2_play_121 : decode cX2_play 121 = .ok (.iload_n 3, 1) := by decide +kernel
theorem dX2_play_122 : decode cX2_play 122 = .ok (.ireturn, 1) := by decide +kernel
theorem dX2_play_123 : decode cX2_play 123 = .ok (.iinc 5 1, 3) := by decide +kernel
theorem dX2_play_126 : decode cX2_play 126 = .ok (.goto (-84), 3) := by decide +kernel
theorem dX2_play_129 : decode cX2_play 129 = .ok (.iload_n 3, 1) := by decide +kernel
theorem dX2_play_130 : decode cX2_play 130 = .ok (.ireturn, 1) := by decide +kernel
theorem dX2_stopped_0 : decode cX2_stopped 0 = .ok (.aload_n 0, 1) := by decide +kernel
theorem dX2_stopped_1 : decode cX2_stopped 1 = .ok (.getfield 23, 3) := by decide +kernel
theorem dX2_stopped_4 : decode cX2_stopped 4 = .ok (.ireturn, 1) := by decide +kernel
set_option maxRecDepth 20000 in
theorem ggX2_empty_X0_has : GoodIn wsX2_empty wsX0_has := goodIn_r _ [6] (by decide +kernel) (by decide +kernel)
set_option maxRecDepth 20000 in
theorem gX2_empty_X0_has : GoodIn wsX2_empty (wsV RX2 82 RX0 yX0_has wsX0_has) := goodIn_app (goodIn_of _ (by decide +kernel)) ggX2_empty_X0_has
set_option maxRecDepth 20000 in
theorem ggX2_empty_X0_drop : GoodIn wsX2_empty wsX0_drop := goodIn_r _ [10, 11, 12, 13, 14, 5, 15, 16, 3, 4, 6, 22, 23, 24, 25] (by decide +kernel) (by decide +kernel)
set_option maxRecDepth 20000 in
theorem gX2_empty_X0_drop : GoodIn wsX2_empty (wsV RX2 103 RX0 yX0_drop wsX0_drop) := goodIn_app (goodIn_of _ (by decide +kernel)) ggX2_empty_X0_drop
theorem dX2_empty_0 : decode cX2_empty 0 = .ok (.aload_n 0, 1) := by decide +kernel
theorem dX2_empty_1 : decode cX2_empty 1 = .ok (.getfield 19, 3) := by decide +kernel
theorem dX2_empty_4 : decode cX2_empty 4 = .ok (.iload_n 1, 1) := by decide +kernel
theorem dX2_empty_5 : decode cX2_empty 5 = .ok (.invokevirtual 82, 3) := by decide +kernel
theorem dX2_empty_8 : decode cX2_empty 8 = .ok (.ifCond .eq 14, 3) := by decide +kernel
theorem dX2_empty_11 : decode cX2_empty 11 = .ok (.aload_n 0, 1) := by decide +kernel
theorem dX2_empty_12 : decode cX2_empty 12 = .ok (.getfield 19, 3) := by decide +kernel
theorem dX2_empty_15 : decode cX2_empty 15 = .ok (.iload_n 1, 1) := by decide +kernel
theorem dX2_empty_16 : decode cX2_empty 16 = .ok (.invokevirtual 103, 3) := by decide +kernel
theorem dX2_empty_19 : decode cX2_empty 19 = .ok (.goto 5, 3) := by decide +kernel
theorem dX2_empty_22 : decode cX2_empty 22 = .ok (.bipush (-3), 2) := by decide +kernel
theorem dX2_empty_24 : decode cX2_empty 24 = .ok (.ireturn, 1) := by decide +kernel
set_option maxRecDepth 20000 in
theorem ggX2_is_X1_has : GoodIn wsX2_is wsX1_has := goodIn_r _ [6, 7, 25, 26, 27, 28, 29] (by decide +kernel) (by decide +kernel)
set_option maxRecDepth 20000 in
theorem gX2_is_X1_has : GoodIn wsX2_is (wsV RX2 106 RX1 yX1_has wsX1_has) := goodIn_app (goodIn_of _ (by decide +kernel)) ggX2_is_X1_has
set_option maxRecDepth 20000 in
theorem ggX2_is_X2_isView : GoodIn wsX2_is wsX2_isView := goodIn_r _ [11] (by decide +kernel) (by decide +kernel)
set_option maxRecDepth 20000 in
theorem gX2_is_X2_isView : GoodIn wsX2_is (va_wsS RX2 107 yX2_isView wsX2_isView) := goodIn_app (goodIn_of _ (by decide +kernel)) ggX2_is_X2_isView
set_option maxRecDepth 20000 in
theorem ggX2_is_X1_isA : GoodIn wsX2_is wsX1_isA := goodIn_r _ [15, 16, 17, 3, 4, 5, 6, 7, 18, 10, 19, 25, 26, 27, 28, 29] (by decide +kernel) (by decide +kernel)
set_option maxRecDepth 20000 in
theorem gX2_is_X1_isA : GoodIn wsX2_is (wsV RX2 58 RX1 yX1_isA wsX1_isA) := goodIn_app (goodIn_of _ (by decide +kernel)) ggX2_is_X1_isA
theorem dX2_is_0 : decode cX2_is 0 = .ok (.aload_n 0, 1) := by decide +kernel
theorem dX2_is_1 : decode cX2_is 1 = .ok (.getfield 10, 3) := by decide +kernel
theorem dX2_is_4 : decode cX2_is 4 = .ok (.iload_n 1, 1) := by decide +kernel
theorem dX2_is_5 : decode cX2_is 5 = .ok (.invokevirtual 106, 3) := by decide +kernel
theorem dX2_is_8 : decode cX2_is 8 = .ok (.ifCond .eq 10, 3) := by decide +kernel
theorem dX2_is_11 : decode cX2_is 11 = .ok (.iload_n 2, 1) := by decide +kernel
theorem dX2_is_12 : decode cX2_is 12 = .ok (.invokestatic 107, 3) := by decide +kernel
theorem dX2_is_15 : decode cX2_is 15 = .ok (.ifCond .ne 6, 3) := by decide +kernel
theorem dX2_is_18 : decode cX2_is 18 = .ok (.bipush (-3), 2) := by decide +kernel
theorem dX2_is_20 : decode cX2_is 20 = .ok (.ireturn, 1) := by decide +kernel
theorem dX2_is_21 : decode cX2_is 21 = .ok (.aload_n 0, 1) := by decide +kernel
theorem dX2_is_22 : decode cX2_is 22 = .ok (.getfield 10, 3) := by decide +kernel
theorem dX2_is_25 : decode cX2_is 25 = .ok (.iload_n 1, 1) := by decide +kernel
theorem dX2_is_26 : decode cX2_is 26 = .ok (.iload_n 2, 1) := by decide +kernel
theorem dX2_is_27 : decode cX2_is 27 = .ok (.invokevirtual 58, 3) := by decide +kernel
theorem dX2_is_30 : decode cX2_is 30 = .ok (.ifCond .eq 7, 3) := by decide +kernel
theorem dX2_is_33 : decode cX2_is 33 = .ok (.iconst 1, 1) := by decide +kernel
theorem dX2_is_34 : decode cX2_is 34 = .ok (.goto 4, 3) := by decide +kernel
theorem dX2_is_37 : decode cX2_is 37 = .ok (.iconst 0, 1) := by decide +kernel
theorem dX2_is_38 : decode cX2_is 38 = .ok (.ireturn, 1) := by decide +kernel
set_option maxRecDepth 20000 in
theorem ggX2_views_X1_has : GoodIn wsX2_views wsX1_has := goodIn_r _ [6, 7, 23, 24, 25, 26, 27] (by decide +kernel) (by decide +kernel)
set_option maxRecDepth 20000 in
theorem gX2_views_X1_has : GoodIn wsX2_views (wsV RX2 106 RX1 yX1_has wsX1_has) := goodIn_app (goodIn_of _ (by decide +kernel)) ggX2_views_X1_has
set_option maxRecDepth 20000 in
theorem ggX2_views_X1_formOf : GoodIn wsX2_views wsX1_formOf := goodIn_r _ [11, 12, 13, 3, 4, 5, 6, 7, 23, 24, 25, 26, 27] (by decide +kernel) (by decide +kernel)
set_option maxRecDepth 20000 in
theorem gX2_views_X1_formOf : GoodIn wsX2_views (wsV RX2 110 RX1 yX1_formOf wsX1_formOf) := goodIn_app (goodIn_of _ (by decide +kernel)) ggX2_views_X1_formOf
set_option maxRecDepth 20000 in
theorem ggX2_views_X2_viewsOfForm : GoodIn wsX2_views wsX2_viewsOfForm := goodIn_r _ [17] (by decide +kernel) (by decide +kernel)
set_option maxRecDepth 20000 in
theorem gX2_views_X2_viewsOfForm : GoodIn wsX2_views (va_wsS RX2 113 yX2_viewsOfForm wsX2_viewsOfForm) := goodIn_app (goodIn_of _ (by decide +kernel)) ggX2_views_X2_viewsOfForm
theorem dX2_views_0 : decode cX2_views 0 = .ok (.aload_n 0, 1) := by decide +kernel
theorem dX2_views_1 : decode cX2_views 1 = .ok (.getfield 10, 3) := by decide +kernel
theorem dX2_views_4 : decode cX2_views 4 = .ok (.iload_n 1, 1) := by decide +kernel
theorem dX2_views_5 : decode cX2_views 5 = .ok (.invokevirtual 106, 3) := by decide +kernel
theorem dX2_views_8 : decode cX2_views 8 = .ok (.ifCond .eq 17, 3) := by decide +kernel
theorem dX2_views_11 : decode cX2_views 11 = .ok (.aload_n 0, 1) := by decide +kernel
theorem dX2_views_12 : decode cX2_views 12 = .ok (.getfield 10, 3) := by decide +kernel
theorem dX2_views_15 : decode cX2_views 15 = .ok (.iload_n 1, 1) := by decide +kernel
theorem dX2_views_16 : decode cX2_views 16 = .ok (.invokevirtual 110, 3) := by decide +kernel
theorem dX2_views_19 : decode cX2_views 19 = .ok (.invokestatic 113, 3) := by decide +kernel
theorem dX2_views_22 : decode cX2_views 22 = .ok (.goto 5, 3) := by decide +kernel
theorem dX2_views_25 : decode cX2_views 25 = .ok (.bipush (-3), 2) := by decide +kernel
theorem dX2_views_27 : decode cX2_views 27 = .ok (.ireturn, 1) := by decide +kernel
set_option maxRecDepth 20000 in
theorem ggX2_size_X1_has : GoodIn wsX2_size wsX1_has := goodIn_r _ [6, 7, 19, 20, 21, 22, 23] (by decide +kernel) (by decide +kernel)
set_option maxRecDepth 20000 in
theorem gX2_size_X1_has : GoodIn wsX2_size (wsV RX2 106 RX1 yX1_has wsX1_has) := goodIn_app (goodIn_of _ (by decide +kernel)) ggX2_size_X1_has
set_option maxRecDepth 20000 in
theorem ggX2_size_X1_lengthOf : GoodIn wsX2_size wsX1_lengthOf := goodIn_r _ [11, 12, 13, 3, 4, 5, 6, 7, 19, 20, 21, 22, 23] (by decide +kernel) (by decide +kernel)
set_option maxRecDepth 20000 in
theorem gX2_size_X1_lengthOf : GoodIn wsX2_size (wsV RX2 116 RX1 yX1_lengthOf wsX1_lengthOf) := goodIn_app (goodIn_of _ (by decide +kernel)) ggX2_size_X1_lengthOf
theorem dX2_size_0 : decode cX2_size 0 = .ok (.aload_n 0, 1) := by decide +kernel
theorem dX2_size_1 : decode cX2_size 1 = .ok (.getfield 10, 3) := by decide +kernel
theorem dX2_size_4 : decode cX2_size 4 = .ok (.iload_n 1, 1) := by decide +kernel
theorem dX2_size_5 : decode cX2_size 5 = .ok (.invokevirtual 106, 3) := by decide +kernel
theorem dX2_size_8 : decode cX2_size 8 = .ok (.ifCond .eq 14, 3) := by decide +kernel
theorem dX2_size_11 : decode cX2_size 11 = .ok (.aload_n 0, 1) := by decide +kernel
theorem dX2_size_12 : decode cX2_size 12 = .ok (.getfield 10, 3) := by decide +kernel
theorem dX2_size_15 : decode cX2_size 15 = .ok (.iload_n 1, 1) := by decide +kernel
theorem dX2_size_16 : decode cX2_size 16 = .ok (.invokevirtual 116, 3) := by decide +kernel
theorem dX2_size_19 : decode cX2_size 19 = .ok (.goto 5, 3) := by decide +kernel
theorem dX2_size_22 : decode cX2_size 22 = .ok (.bipush (-3), 2) := by decide +kernel
theorem dX2_size_24 : decode cX2_size 24 = .ok (.ireturn, 1) := by decide +kernel
set_option maxRecDepth 20000 in
theorem ggX2_count_X1_made : GoodIn wsX2_count wsX1_made := goodIn_r _ [8, 9, 15, 16, 17, 18, 19] (by decide +kernel) (by decide +kernel)
set_option maxRecDepth 20000 in
theorem gX2_count_X1_made : GoodIn wsX2_count (wsV RX2 117 RX1 yX1_made wsX1_made) := goodIn_app (goodIn_of _ (by decide +kernel)) ggX2_count_X1_made
theorem dX2_count_0 : decode cX2_count 0 = .ok (.iload_n 1, 1) := by decide +kernel
theorem dX2_count_1 : decode cX2_count 1 = .ok (.tableswitch 45 0 2 #[27, 35, 40], 27) := by decide +kernel
theorem dX2_count_28 : decode cX2_count 28 = .ok (.aload_n 0, 1) := by decide +kernel
theorem dX2_count_29 : decode cX2_count 29 = .ok (.getfield 10, 3) := by decide +kernel
theorem dX2_count_32 : decode cX2_count 32 = .ok (.invokevirtual 117, 3) := by decide +kernel
theorem dX2_count_35 : decode cX2_count 35 = .ok (.ireturn, 1) := by decide +kernel
theorem dX2_count_36 : decode cX2_count 36 = .ok (.aload_n 0, 1) := by decide +kernel
theorem dX2_count_37 : decode cX2_count 37 = .ok (.getfield 27, 3) := by decide +kernel
theorem dX2_count_40 : decode cX2_count 40 = .ok (.ireturn, 1) := by decide +kernel
theorem dX2_count_41 : decode cX2_count 41 = .ok (.aload_n 0, 1) := by decide +kernel
theorem dX2_count_42 : decode cX2_count 42 = .ok (.getfield 30, 3) := by decide +kernel
theorem dX2_count_45 : decode cX2_count 45 = .ok (.ireturn, 1) := by decide +kernel
theorem dX2_count_46 : decode cX2_count 46 = .ok (.bipush (-3), 2) := by decide +kernel
theorem dX2_count_48 : decode cX2_count 48 = .ok (.ireturn, 1) := by decide +kernel
set_option maxRecDepth 20000 in
theorem ggX2_clear_X0_dropAll : GoodIn wsX2_clear wsX0_dropAll := goodIn_r _ [7, 8, 20, 21, 22, 23] (by decide +kernel) (by decide +kernel)
set_option maxRecDepth 20000 in
theorem gX2_clear_X0_dropAll : GoodIn wsX2_clear (wsV RX2 121 RX0 yX0_dropAll wsX0_dropAll) := goodIn_app (goodIn_of _ (by decide +kernel)) ggX2_clear_X0_dropAll
set_option maxRecDepth 20000 in
theorem ggX2_clear_X1_forgetAll : GoodIn wsX2_clear wsX1_forgetAll := goodIn_r _ [13, 14, 24, 25, 26, 27, 28] (by decide +kernel) (by decide +kernel)
set_option maxRecDepth 20000 in
theorem gX2_clear_X1_forgetAll : GoodIn wsX2_clear (wsV RX2 124 RX1 yX1_forgetAll wsX1_forgetAll) := goodIn_app (goodIn_of _ (by decide +kernel)) ggX2_clear_X1_forgetAll
theorem dX2_clear_0 : decode cX2_clear 0 = .ok (.aload_n 0, 1) := by decide +kernel
theorem dX2_clear_1 : decode cX2_clear 1 = .ok (.getfield 19, 3) := by decide +kernel
theorem dX2_clear_4 : decode cX2_clear 4 = .ok (.invokevirtual 121, 3) := by decide +kernel
theorem dX2_clear_7 : decode cX2_clear 7 = .ok (.aload_n 0, 1) := by decide +kernel
theorem dX2_clear_8 : decode cX2_clear 8 = .ok (.getfield 10, 3) := by decide +kernel
theorem dX2_clear_11 : decode cX2_clear 11 = .ok (.invokevirtual 124, 3) := by decide +kernel
theorem dX2_clear_14 : decode cX2_clear 14 = .ok (.ireturn, 1) := by decide +kernel
theorem dX2_isLength_0 : decode cX2_isLength 0 = .ok (.iload_n 0, 1) := by decide +kernel
theorem dX2_isLength_1 : decode cX2_isLength 1 = .ok (.ifCond .lt 13, 3) := by decide +kernel
theorem dX2_isLength_4 : decode cX2_isLength 4 = .ok (.iload_n 0, 1) := by decide +kernel
theorem dX2_isLength_5 : decode cX2_isLength 5 = .ok (.bipush 8, 2) := by decide +kernel
theorem dX2_isLength_7 : decode cX2_isLength 7 = .ok (.if_icmp .gt 7, 3) := by decide +kernel
theorem dX2_isLength_10 : decode cX2_isLength 10 = .ok (.iconst 1, 1) := by decide +kernel
theorem dX2_isLength_11 : decode cX2_isLength 11 = .ok (.goto 4, 3) := by decide +kernel
theorem dX2_isLength_14 : decode cX2_isLength 14 = .ok (.iconst 0, 1) := by decide +kernel
theorem dX2_isLength_15 : decode cX2_isLength 15 = .ok (.ireturn, 1) := by decide +kernel
theorem dX2_isAct_0 : decode cX2_isAct 0 = .ok (.iload_n 0, 1) := by decide +kernel
theorem dX2_isAct_1 : decode cX2_isAct 1 = .ok (.ifCond .lt 13, 3) := by decide +kernel
theorem dX2_isAct_4 : decode cX2_isAct 4 = .ok (.iload_n 0, 1) := by decide +kernel
theorem dX2_isAct_5 : decode cX2_isAct 5 = .ok (.bipush 12, 2) := by decide +kernel
theorem dX2_isAct_7 : decode cX2_isAct 7 = .ok (.if_icmp .gt 7, 3) := by decide +kernel
theorem dX2_isAct_10 : decode cX2_isAct 10 = .ok (.iconst 1, 1) := by decide +kernel
theorem dX2_isAct_11 : decode cX2_isAct 11 = .ok (.goto 4, 3) := by decide +kernel
theorem dX2_isAct_14 : decode cX2_isAct 14 = .ok (.iconst 0, 1) := by decide +kernel
theorem dX2_isAct_15 : decode cX2_isAct 15 = .ok (.ireturn, 1) := by decide +kernel
theorem dX2_isView_0 : decode cX2_isView 0 = .ok (.iload_n 0, 1) := by decide +kernel
theorem dX2_isView_1 : decode cX2_isView 1 = .ok (.ifCond .lt 13, 3) := by decide +kernel
theorem dX2_isView_4 : decode cX2_isView 4 = .ok (.iload_n 0, 1) := by decide +kernel
theorem dX2_isView_5 : decode cX2_isView 5 = .ok (.bipush 11, 2) := by decide +kernel
theorem dX2_isView_7 : decode cX2_isView 7 = .ok (.if_icmp .gt 7, 3) := by decide +kernel
theorem dX2_isView_10 : decode cX2_isView 10 = .ok (.iconst 1, 1) := by decide +kernel
theorem dX2_isView_11 : decode cX2_isView 11 = .ok (.goto 4, 3) := by decide +kernel
theorem dX2_isView_14 : decode cX2_isView 14 = .ok (.iconst 0, 1) := by decide +kernel
theorem dX2_isView_15 : decode cX2_isView 15 = .ok (.ireturn, 1) := by decide +kernel
theorem dX2_isBoardForm_0 : decode cX2_isBoardForm 0 = .ok (.iload_n 0, 1) := by decide +kernel
theorem dX2_isBoardForm_1 : decode cX2_isBoardForm 1 = .ok (.iconst 3, 1) := by decide +kernel
theorem dX2_isBoardForm_2 : decode cX2_isBoardForm 2 = .ok (.if_icmp .eq 15, 3) := by decide +kernel
theorem dX2_isBoardForm_5 : decode cX2_isBoardForm 5 = .ok (.iload_n 0, 1) := by decide +kernel
theorem dX2_isBoardForm_6 : decode cX2_isBoardForm 6 = .ok (.bipush 6, 2) := by decide +kernel
theorem dX2_isBoardForm_8 : decode cX2_isBoardForm 8 = .ok (.if_icmp .lt 13, 3) := by decide +kernel
theorem dX2_isBoardForm_11 : decode cX2_isBoardForm 11 = .ok (.iload_n 0, 1) := by decide +kernel
theorem dX2_isBoardForm_12 : decode cX2_isBoardForm 12 = .ok (.bipush 10, 2) := by decide +kernel
theorem dX2_isBoardForm_14 : decode cX2_isBoardForm 14 = .ok (.if_icmp .gt 7, 3) := by decide +kernel
theorem dX2_isBoardForm_17 : decode cX2_isBoardForm 17 = .ok (.iconst 1, 1) := by decide +kernel
theorem dX2_isBoardForm_18 : decode cX2_isBoardForm 18 = .ok (.goto 4, 3) := by decide +kernel
theorem dX2_isBoardForm_21 : decode cX2_isBoardForm 21 = .ok (.iconst 0, 1) := by decide +kernel
theorem dX2_isBoardForm_22 : decode cX2_isBoardForm 22 = .ok (.ireturn, 1) := by decide +kernel
set_option maxRecDepth 20000 in
theorem ggX2_isValueOrNone_X1_has : GoodIn wsX2_isValueOrNone wsX1_has := goodIn_r _ [6, 7, 13, 14, 15, 16, 17] (by decide +kernel) (by decide +kernel)
set_option maxRecDepth 20000 in
theorem gX2_isValueOrNone_X1_has : GoodIn wsX2_isValueOrNone (wsV RX2 106 RX1 yX1_has wsX1_has) := goodIn_app (goodIn_of _ (by decide +kernel)) ggX2_isValueOrNone_X1_has
theorem dX2_isValueOrNone_0 : decode cX2_isValueOrNone 0 = .ok (.iload_n 1, 1) := by decide +kernel
theorem dX2_isValueOrNone_1 : decode cX2_isValueOrNone 1 = .ok (.iconst (-1), 1) := by decide +kernel
theorem dX2_isValueOrNone_2 : decode cX2_isValueOrNone 2 = .ok (.if_icmp .eq 14, 3) := by decide +kernel
theorem dX2_isValueOrNone_5 : decode cX2_isValueOrNone 5 = .ok (.aload_n 0, 1) := by decide +kernel
theorem dX2_isValueOrNone_6 : decode cX2_isValueOrNone 6 = .ok (.getfield 10, 3) := by decide +kernel
theorem dX2_isValueOrNone_9 : decode cX2_isValueOrNone 9 = .ok (.iload_n 1, 1) := by decide +kernel
theorem dX2_isValueOrNone_10 : decode cX2_isValueOrNone 10 = .ok (.invokevirtual 106, 3) := by decide +kernel
theorem dX2_isValueOrNone_13 : decode cX2_isValueOrNone 13 = .ok (.ifCond .eq 7, 3) := by decide +kernel
theorem dX2_isValueOrNone_16 : decode cX2_isValueOrNone 16 = .ok (.iconst 1, 1) := by decide +kernel
theorem dX2_isValueOrNone_17 : decode cX2_isValueOrNone 17 = .ok (.goto 4, 3) := by decide +kernel
theorem dX2_isValueOrNone_20 : decode cX2_isValueOrNone 20 = .ok (.iconst 0, 1) := by decide +kernel
theorem dX2_isValueOrNone_21 : decode cX2_isValueOrNone 21 = .ok (.ireturn, 1) := by decide +kernel
theorem dX2_viewsOfForm_0 : decode cX2_viewsOfForm 0 = .ok (.iload_n 0, 1) := by decide +kernel
theorem dX2_viewsOfForm_1 : decode cX2_viewsOfForm 1 = .ok (.lookupswitch 47 #[(5, 35), (7, 39), (10, 43)], 35) := by decide +kernel
theorem dX2_viewsOfForm_36 : decode cX2_viewsOfForm 36 = .ok (.sipush 2096, 3) := by decide +kernel
theorem dX2_viewsOfForm_39 : decode cX2_viewsOfForm 39 = .ok (.ireturn, 1) := by decide +kernel
theorem dX2_viewsOfForm_40 : decode cX2_viewsOfForm 40 = .ok (.sipush 448, 3) := by decide +kernel
theorem dX2_viewsOfForm_43 : decode cX2_viewsOfForm 43 = .ok (.ireturn, 1) := by decide +kernel
theorem dX2_viewsOfForm_44 : decode cX2_viewsOfForm 44 = .ok (.sipush 1536, 3) := by decide +kernel
theorem dX2_viewsOfForm_47 : decode cX2_viewsOfForm 47 = .ok (.ireturn, 1) := by decide +kernel
theorem dX2_viewsOfForm_48 : decode cX2_viewsOfForm 48 = .ok (.iconst 1, 1) := by decide +kernel
theorem dX2_viewsOfForm_49 : decode cX2_viewsOfForm 49 = .ok (.iload_n 0, 1) := by decide +kernel
theorem dX2_viewsOfForm_50 : decode cX2_viewsOfForm 50 = .ok (.ishl, 1) := by decide +kernel
theorem dX2_viewsOfForm_51 : decode cX2_viewsOfForm 51 = .ok (.ireturn, 1) := by decide +kernel
theorem dX2_takenBy_0 : decode cX2_takenBy 0 = .ok (.iload_n 0, 1) := by decide +kernel
theorem dX2_takenBy_1 : decode cX2_takenBy 1 = .ok (.tableswitch 60 3 10 #[47, 60, 60, 60, 49, 51, 54, 57], 47) := by decide +kernel
theorem dX2_takenBy_48 : decode cX2_takenBy 48 = .ok (.iconst 1, 1) := by decide +kernel
theorem dX2_takenBy_49 : decode cX2_takenBy 49 = .ok (.ireturn, 1) := by decide +kernel
theorem dX2_takenBy_50 : decode cX2_takenBy 50 = .ok (.iconst 5, 1) := by decide +kernel
theorem dX2_takenBy_51 : decode cX2_takenBy 51 = .ok (.ireturn, 1) := by decide +kernel
theorem dX2_takenBy_52 : decode cX2_takenBy 52 = .ok (.bipush 11, 2) := by decide +kernel
theorem dX2_takenBy_54 : decode cX2_takenBy 54 = .ok (.ireturn, 1) := by decide +kernel
theorem dX2_takenBy_55 : decode cX2_takenBy 55 = .ok (.bipush 6, 2) := by decide +kernel
theorem dX2_takenBy_57 : decode cX2_takenBy 57 = .ok (.ireturn, 1) := by decide +kernel
theorem dX2_takenBy_58 : decode cX2_takenBy 58 = .ok (.bipush 7, 2) := by decide +kernel
theorem dX2_takenBy_60 : decode cX2_takenBy 60 = .ok (.ireturn, 1) := by decide +kernel
theorem dX2_takenBy_61 : decode cX2_takenBy 61 = .ok (.iconst 4, 1) := by decide +kernel
theorem dX2_takenBy_62 : decode cX2_takenBy 62 = .ok (.ireturn, 1) := by decide +kernel
theorem dX2_fault_0 : decode cX2_fault 0 = .ok (.bipush (-10), 2) := by decide +kernel
theorem dX2_fault_2 : decode cX2_fault 2 = .ok (.iload_n 0, 1) := by decide +kernel
theorem dX2_fault_3 : decode cX2_fault 3 = .ok (.isub, 1) := by decide +kernel
theorem dX2_fault_4 : decode cX2_fault 4 = .ok (.ireturn, 1) := by decide +kernel
theorem dX2_isFault_0 : decode cX2_isFault 0 = .ok (.iload_n 0, 1) := by decide +kernel
theorem dX2_isFault_1 : decode cX2_isFault 1 = .ok (.bipush (-10), 2) := by decide +kernel
theorem dX2_isFault_3 : decode cX2_isFault 3 = .ok (.if_icmp .ge 7, 3) := by decide +kernel
theorem dX2_isFault_6 : decode cX2_isFault 6 = .ok (.iconst 1, 1) := by decide +kernel
theorem dX2_isFault_7 : decode cX2_isFault 7 = .ok (.goto 4, 3) := by decide +kernel
theorem dX2_isFault_10 : decode cX2_isFault 10 = .ok (.iconst 0, 1) := by decide +kernel
theorem dX2_isFault_11 : decode cX2_isFault 11 = .ok (.ireturn, 1) := by decide +kernel
set_option maxRecDepth 20000 in
theorem ggX2_noted_X2_isFault : GoodIn wsX2_noted wsX2_isFault := goodIn_r _ [6] (by decide +kernel) (by decide +kernel)
set_option maxRecDepth 20000 in
theorem gX2_noted_X2_isFault : GoodIn wsX2_noted (va_wsS RX2 100 yX2_isFault wsX2_isFault) := goodIn_app (goodIn_of _ (by decide +kernel)) ggX2_noted_X2_isFault
theorem dX2_noted_0 : decode cX2_noted 0 = .ok (.iload_n 1, 1) := by decide +kernel
theorem dX2_noted_1 : decode cX2_noted 1 = .ok (.invokestatic 100, 3) := by decide +kernel
theorem dX2_noted_4 : decode cX2_noted 4 = .ok (.ifCond .eq 21, 3) := by decide +kernel
theorem dX2_noted_7 : decode cX2_noted 7 = .ok (.aload_n 0, 1) := by decide +kernel
theorem dX2_noted_8 : decode cX2_noted 8 = .ok (.dup, 1) := by decide +kernel
theorem dX2_noted_9 : decode cX2_noted 9 = .ok (.getfield 27, 3) := by decide +kernel
theorem dX2_noted_12 : decode cX2_noted 12 = .ok (.iconst 1, 1) := by decide +kernel
theorem dX2_noted_13 : decode cX2_noted 13 = .ok (.iadd, 1) := by decide +kernel
theorem dX2_noted_14 : decode cX2_noted 14 = .ok (.putfield 27, 3) := by decide +kernel
theorem dX2_noted_17 : decode cX2_noted 17 = .ok (.aload_n 0, 1) := by decide +kernel
theorem dX2_noted_18 : decode cX2_noted 18 = .ok (.bipush (-10), 2) := by decide +kernel
theorem dX2_noted_20 : decode cX2_noted 20 = .ok (.iload_n 1, 1) := by decide +kernel
theorem dX2_noted_21 : decode cX2_noted 21 = .ok (.isub, 1) := by decide +kernel
theorem dX2_noted_22 : decode cX2_noted 22 = .ok (.putfield 30, 3) := by decide +kernel
theorem dX2_noted_25 : decode cX2_noted 25 = .ok (.iload_n 1, 1) := by decide +kernel
theorem dX2_noted_26 : decode cX2_noted 26 = .ok (.ireturn, 1) := by decide +kernel
set_option maxRecDepth 20000 in
theorem ggX2_makes_X1_isA : GoodIn wsX2_makes wsX1_isA := goodIn_r _ [6, 7, 8, 9, 10, 5, 11, 12, 13, 14, 15, 26, 27, 28, 29, 30] (by decide +kernel) (by decide +kernel)
set_option maxRecDepth 20000 in
theorem gX2_makes_X1_isA : GoodIn wsX2_makes (wsV RX2 58 RX1 yX1_isA wsX1_isA) := goodIn_app (goodIn_of _ (by decide +kernel)) ggX2_makes_X1_isA
set_option maxRecDepth 20000 in
theorem ggX2_makes_X1_lengthOf : GoodIn wsX2_makes wsX1_lengthOf := goodIn_r _ [19, 20, 8, 9, 10, 5, 11, 12, 26, 27, 28, 29, 30] (by decide +kernel) (by decide +kernel)
set_option maxRecDepth 20000 in
theorem gX2_makes_X1_lengthOf : GoodIn wsX2_makes (wsV RX2 116 RX1 yX1_lengthOf wsX1_lengthOf) := goodIn_app (goodIn_of _ (by decide +kernel)) ggX2_makes_X1_lengthOf
theorem dX2_makes_0 : decode cX2_makes 0 = .ok (.iload_n 1, 1) := by decide +kernel
theorem dX2_makes_1 : decode cX2_makes 1 = .ok (.tableswitch 84 3 12 #[55, 55, 84, 57, 84, 84, 84, 84, 84, 55], 55) := by decide +kernel
theorem dX2_makes_56 : decode cX2_makes 56 = .ok (.iconst 0, 1) := by decide +kernel
theorem dX2_makes_57 : decode cX2_makes 57 = .ok (.ireturn, 1) := by decide +kernel
theorem dX2_makes_58 : decode cX2_makes 58 = .ok (.aload_n 0, 1) := by decide +kernel
theorem dX2_makes_59 : decode cX2_makes 59 = .ok (.getfield 10, 3) := by decide +kernel
theorem dX2_makes_62 : decode cX2_makes 62 = .ok (.iload_n 2, 1) := by decide +kernel
theorem dX2_makes_63 : decode cX2_makes 63 = .ok (.iconst 1, 1) := by decide +kernel
theorem dX2_makes_64 : decode cX2_makes 64 = .ok (.invokevirtual 58, 3) := by decide +kernel
theorem dX2_makes_67 : decode cX2_makes 67 = .ok (.ifCond .eq 16, 3) := by decide +kernel
theorem dX2_makes_70 : decode cX2_makes 70 = .ok (.iconst 1, 1) := by decide +kernel
theorem dX2_makes_71 : decode cX2_makes 71 = .ok (.aload_n 0, 1) := by decide +kernel
theorem dX2_makes_72 : decode cX2_makes 72 = .ok (.getfield 10, 3) := by decide +kernel
theorem dX2_makes_75 : decode cX2_makes 75 = .ok (.iload_n 2, 1) := by decide +kernel
theorem dX2_makes_76 : decode cX2_makes 76 = .ok (.invokevirtual 116, 3) := by decide +kernel
theorem dX2_makes_79 : decode cX2_makes 79 = .ok (.iadd, 1) := by decide +kernel
theorem dX2_makes_80 : decode cX2_makes 80 = .ok (.goto 4, 3) := by decide +kernel
theorem dX2_makes_83 : decode cX2_makes 83 = .ok (.iconst 1, 1) := by decide +kernel
theorem dX2_makes_84 : decode cX2_makes 84 = .ok (.ireturn, 1) := by decide +kernel
theorem dX2_makes_85 : decode cX2_makes 85 = .ok (.iconst 1, 1) := by decide +kernel
theorem dX2_makes_86 : decode cX2_makes 86 = .ok (.ireturn, 1) := by decide +kernel
set_option maxRecDepth 20000 in
theorem ggX2_answerOf_X1_made : GoodIn wsX2_answerOf wsX1_made := goodIn_r _ [6, 7, 181, 182, 183, 184, 185] (by decide +kernel) (by decide +kernel)
set_option maxRecDepth 20000 in
theorem gX2_answerOf_X1_made : GoodIn wsX2_answerOf (wsV RX2 117 RX1 yX1_made wsX1_made) := goodIn_app (goodIn_of _ (by decide +kernel)) ggX2_answerOf_X1_made
set_option maxRecDepth 20000 in
theorem ggX2_answerOf_X2_makes : GoodIn wsX2_answerOf wsX2_makes := goodIn_r _ [12, 1, 13, 14, 15, 5, 16, 17, 18, 19, 20, 21, 7, 22, 11, 23, 24, 25, 26, 27, 28, 176, 177, 178, 179, 180, 181, 182, 183, 184, 185] (by decide +kernel) (by decide +kernel)
set_option maxRecDepth 20000 in
theorem gX2_answerOf_X2_makes : GoodIn wsX2_answerOf (wsV RX2 127 RX2 yX2_makes wsX2_makes) := goodIn_app (goodIn_of _ (by decide +kernel)) ggX2_answerOf_X2_makes
set_option maxRecDepth 20000 in
theorem ggX2_answerOf_X2_fault : GoodIn wsX2_answerOf wsX2_fault := goodIn_r _ [31] (by decide +kernel) (by decide +kernel)
set_option maxRecDepth 20000 in
theorem gX2_answerOf_X2_fault : GoodIn wsX2_answerOf (va_wsS RX2 130 yX2_fault wsX2_fault) := goodIn_app (goodIn_of _ (by decide +kernel)) ggX2_answerOf_X2_fault
set_option maxRecDepth 20000 in
theorem ggX2_answerOf_X2_sum : GoodIn wsX2_answerOf wsX2_sum := goodIn_r _ [35, 1, 29, 30, 11, 31, 36, 37, 38, 5, 39, 17, 18, 19, 20, 21, 7, 40, 41, 42, 43, 24, 25, 26, 27, 28, 44, 45, 46, 47, 48, 49, 50, 51, 52, 53, 54, 55, 56, 57, 58, 59, 60, 61, 62, 63, 64, 65, 66, 67, 68, 69, 70, 71, 72, 13, 14, 15, 16, 22, 23, 73, 74, 75, 76, 77, 78, 176, 177, 178, 179, 180, 181, 182, 183, 184, 185] (by decide +kernel) (by decide +kernel)
set_option maxRecDepth 20000 in
theorem gX2_answerOf_X2_sum : GoodIn wsX2_answerOf (wsV RX2 133 RX2 yX2_sum wsX2_sum) := goodIn_app (goodIn_of _ (by decide +kernel)) ggX2_answerOf_X2_sum
set_option maxRecDepth 20000 in
theorem ggX2_answerOf_X2_widen : GoodIn wsX2_answerOf wsX2_widen := goodIn_r _ [82, 1, 29, 30, 11, 31, 13, 14, 15, 5, 16, 17, 18, 19, 20, 21, 7, 22, 23, 83, 84, 85, 86, 87, 25, 26, 27, 28, 57, 58, 59, 60, 61, 48, 62, 63, 64, 65, 88, 89, 90, 91, 92, 45, 46, 47, 49, 50, 51, 52, 66, 67, 68, 69, 70, 71, 72, 176, 177, 178, 179, 180, 181, 182, 183, 184, 185] (by decide +kernel) (by decide +kernel)
set_option maxRecDepth 20000 in
theorem gX2_answerOf_X2_widen : GoodIn wsX2_answerOf (wsV RX2 136 RX2 yX2_widen wsX2_widen) := goodIn_app (goodIn_of _ (by decide +kernel)) ggX2_answerOf_X2_widen
set_option maxRecDepth 20000 in
theorem ggX2_answerOf_X2_narrow : GoodIn wsX2_answerOf wsX2_narrow := goodIn_r _ [96, 1, 29, 30, 11, 31, 13, 14, 15, 5, 16, 17, 18, 19, 20, 21, 7, 22, 23, 83, 84, 85, 86, 87, 25, 26, 27, 28, 57, 58, 59, 60, 61, 48, 62, 63, 64, 65, 88, 89, 90, 91, 92, 45, 46, 47, 49, 50, 51, 52, 66, 67, 68, 69, 70, 71, 72, 176, 177, 178, 179, 180, 181, 182, 183, 184, 185] (by decide +kernel) (by decide +kernel)
set_option maxRecDepth 20000 in
theorem gX2_answerOf_X2_narrow : GoodIn wsX2_answerOf (wsV RX2 139 RX2 yX2_narrow wsX2_narrow) := goodIn_app (goodIn_of _ (by decide +kernel)) ggX2_answerOf_X2_narrow
set_option maxRecDepth 20000 in
theorem ggX2_answerOf_X2_tap : GoodIn wsX2_answerOf wsX2_tap := goodIn_r _ [100, 1, 29, 30, 11, 31, 101, 102, 103, 5, 104, 17, 18, 19, 20, 21, 7, 105, 64, 65, 106, 50, 51, 52, 28, 74, 75, 76, 77, 48, 49, 176, 177, 178, 179, 180, 181, 182, 183, 184, 185] (by decide +kernel) (by decide +kernel)
set_option maxRecDepth 20000 in
theorem gX2_answerOf_X2_tap : GoodIn wsX2_answerOf (wsV RX2 142 RX2 yX2_tap wsX2_tap) := goodIn_app (goodIn_of _ (by decide +kernel)) ggX2_answerOf_X2_tap
set_option maxRecDepth 20000 in
theorem ggX2_answerOf_X2_lay : GoodIn wsX2_answerOf wsX2_lay := goodIn_r _ [110, 1, 111, 112, 113, 11, 114, 13, 14, 15, 5, 16, 17, 18, 19, 20, 21, 7, 22, 23, 115, 116, 117, 118, 29, 30, 31, 101, 102, 103, 104, 105, 64, 65, 106, 50, 51, 52, 28, 119, 120, 121, 78, 67, 68, 69, 48, 49, 70, 71, 72, 176, 177, 178, 179, 180, 181, 182, 183, 184, 185] (by decide +kernel) (by decide +kernel)
set_option maxRecDepth 20000 in
theorem gX2_answerOf_X2_lay : GoodIn wsX2_answerOf (wsV RX2 145 RX2 yX2_lay wsX2_lay) := goodIn_app (goodIn_of _ (by decide +kernel)) ggX2_answerOf_X2_lay
set_option maxRecDepth 20000 in
theorem ggX2_answerOf_X2_levels : GoodIn wsX2_answerOf wsX2_levels := goodIn_r _ [125, 1, 29, 30, 11, 31, 13, 14, 15, 5, 16, 17, 18, 19, 20, 21, 7, 22, 23, 126, 127, 128, 129, 24, 25, 26, 27, 28, 73, 58, 59, 60, 61, 48, 62, 63, 64, 65, 74, 75, 76, 77, 49, 50, 51, 52, 130, 131, 132, 133, 78, 67, 68, 69, 70, 71, 72, 176, 177, 178, 179, 180, 181, 182, 183, 184, 185] (by decide +kernel) (by decide +kernel)
set_option maxRecDepth 20000 in
theorem gX2_answerOf_X2_levels : GoodIn wsX2_answerOf (wsV RX2 149 RX2 yX2_levels wsX2_levels) := goodIn_app (goodIn_of _ (by decide +kernel)) ggX2_answerOf_X2_levels
set_option maxRecDepth 20000 in
theorem ggX2_answerOf_X2_drive : GoodIn wsX2_answerOf wsX2_drive := goodIn_r _ [137, 1, 29, 30, 11, 31, 13, 14, 15, 5, 16, 17, 18, 19, 20, 21, 7, 22, 23, 24, 25, 26, 27, 28, 2, 3, 4, 6, 44, 45, 46, 47, 48, 49, 50, 51, 52, 138, 139, 140, 141, 61, 57, 58, 59, 60, 62, 63, 64, 65, 73, 78, 67, 68, 69, 70, 71, 72, 176, 177, 178, 179, 180, 181, 182, 183, 184, 185] (by decide +kernel) (by decide +kernel)
set_option maxRecDepth 20000 in
theorem gX2_answerOf_X2_drive : GoodIn wsX2_answerOf (wsV RX2 152 RX2 yX2_drive wsX2_drive) := goodIn_app (goodIn_of _ (by decide +kernel)) ggX2_answerOf_X2_drive
set_option maxRecDepth 20000 in
theorem ggX2_answerOf_X2_pair : GoodIn wsX2_answerOf wsX2_pair := goodIn_r _ [145, 1, 115, 116, 117, 11, 118, 13, 14, 15, 5, 16, 17, 18, 19, 20, 21, 7, 22, 23, 29, 30, 31, 73, 58, 59, 60, 28, 61, 48, 62, 63, 64, 65, 78, 67, 68, 69, 49, 50, 51, 52, 70, 71, 72, 176, 177, 178, 179, 180, 181, 182, 183, 184, 185] (by decide +kernel) (by decide +kernel)
set_option maxRecDepth 20000 in
theorem gX2_answerOf_X2_pair : GoodIn wsX2_answerOf (wsV RX2 156 RX2 yX2_pair wsX2_pair) := goodIn_app (goodIn_of _ (by decide +kernel)) ggX2_answerOf_X2_pair
set_option maxRecDepth 20000 in
theorem ggX2_answerOf_X2_power : GoodIn wsX2_answerOf wsX2_power := goodIn_r _ [149, 1, 150, 29, 30, 11, 31, 13, 14, 15, 5, 16, 17, 18, 19, 20, 21, 7, 22, 23, 130, 131, 132, 133, 61, 53, 54, 55, 56, 57, 58, 59, 60, 28, 48, 62, 63, 64, 65, 66, 67, 68, 69, 49, 50, 51, 52, 70, 71, 72, 126, 127, 128, 129, 24, 25, 26, 27, 73, 74, 75, 76, 77, 78, 176, 177, 178, 179, 180, 181, 182, 183, 184, 185] (by decide +kernel) (by decide +kernel)
set_option maxRecDepth 20000 in
theorem gX2_answerOf_X2_power : GoodIn wsX2_answerOf (wsV RX2 160 RX2 yX2_power wsX2_power) := goodIn_app (goodIn_of _ (by decide +kernel)) ggX2_answerOf_X2_power
set_option maxRecDepth 20000 in
theorem ggX2_answerOf_X2_join : GoodIn wsX2_answerOf wsX2_join := goodIn_r _ [154, 1, 36, 37, 38, 5, 39, 17, 18, 19, 20, 21, 7, 101, 102, 103, 104, 115, 116, 117, 11, 118, 13, 14, 15, 16, 22, 23, 29, 30, 31, 24, 25, 26, 27, 28, 155, 156, 157, 158, 74, 75, 76, 77, 48, 49, 50, 51, 52, 73, 58, 59, 60, 61, 62, 63, 64, 65, 159, 89, 90, 91, 87, 92, 45, 46, 47, 66, 67, 68, 69, 70, 71, 72, 176, 177, 178, 179, 180, 181, 182, 183, 184, 185] (by decide +kernel) (by decide +kernel)
set_option maxRecDepth 20000 in
theorem gX2_answerOf_X2_join : GoodIn wsX2_answerOf (wsV RX2 163 RX2 yX2_join wsX2_join) := goodIn_app (goodIn_of _ (by decide +kernel)) ggX2_answerOf_X2_join
set_option maxRecDepth 20000 in
theorem ggX2_answerOf_X2_copy : GoodIn wsX2_answerOf wsX2_copy := goodIn_r _ [163, 1, 29, 30, 11, 31, 13, 14, 15, 5, 16, 17, 18, 19, 20, 21, 7, 22, 23, 101, 102, 103, 104, 83, 84, 85, 86, 87, 25, 26, 27, 28, 57, 58, 59, 60, 61, 48, 62, 63, 64, 65, 88, 89, 90, 91, 92, 45, 46, 47, 49, 50, 51, 52, 66, 67, 68, 69, 70, 71, 72, 176, 177, 178, 179, 180, 181, 182, 183, 184, 185] (by decide +kernel) (by decide +kernel)
set_option maxRecDepth 20000 in
theorem gX2_answerOf_X2_copy : GoodIn wsX2_answerOf (wsV RX2 166 RX2 yX2_copy wsX2_copy) := goodIn_app (goodIn_of _ (by decide +kernel)) ggX2_answerOf_X2_copy
set_option maxRecDepth 20000 in
theorem ggX2_answerOf_X2_makeCable : GoodIn wsX2_answerOf wsX2_makeCable := goodIn_r _ [167, 1, 168, 62, 11, 63, 73, 58, 59, 5, 60, 7, 17, 28, 61, 48, 64, 65, 29, 30, 31, 176, 177, 178, 179, 180, 181, 182, 183, 184, 185] (by decide +kernel) (by decide +kernel)
set_option maxRecDepth 20000 in
theorem gX2_answerOf_X2_makeCable : GoodIn wsX2_answerOf (wsV RX2 169 RX2 yX2_makeCable wsX2_makeCable) := goodIn_app (goodIn_of _ (by decide +kernel)) ggX2_answerOf_X2_makeCable
set_option maxRecDepth 20000 in
theorem ggX2_answerOf_X2_check : GoodIn wsX2_answerOf wsX2_check := goodIn_r _ [172, 173, 174, 11, 175, 115, 116, 117, 118, 1, 13, 14, 15, 5, 16, 17, 18, 19, 20, 21, 7, 22, 23, 29, 30, 31, 176, 177, 178, 179, 180, 181, 182, 183, 184, 185] (by decide +kernel) (by decide +kernel)
set_option maxRecDepth 20000 in
theorem gX2_answerOf_X2_check : GoodIn wsX2_answerOf (wsV RX2 172 RX2 yX2_check wsX2_check) := goodIn_app (goodIn_of _ (by decide +kernel)) ggX2_answerOf_X2_check
theorem dX2_answerOf_0 : decode cX2_answerOf 0 = .ok (.aload_n 0, 1) := by decide +kernel
theorem dX2_answerOf_1 : decode cX2_answerOf 1 = .ok (.getfield 10, 3) := by decide +kernel
theorem dX2_answerOf_4 : decode cX2_answerOf 4 = .ok (.invokevirtual 117, 3) := by decide +kernel
theorem dX2_answerOf_7 : decode cX2_answerOf 7 = .ok (.aload_n 0, 1) := by decide +kernel
theorem dX2_answerOf_8 : decode cX2_answerOf 8 = .ok (.iload_n 1, 1) := by decide +kernel
theorem dX2_answerOf_9 : decode cX2_answerOf 9 = .ok (.iload_n 2, 1) := by decide +kernel
theorem dX2_answerOf_10 : decode cX2_answerOf 10 = .ok (.invokevirtual 127, 3) := by decide +kernel
theorem dX2_answerOf_13 : decode cX2_answerOf 13 = .ok (.iadd, 1) := by decide +kernel
theorem dX2_answerOf_14 : decode cX2_answerOf 14 = .ok (.bipush 60, 2) := by decide +kernel
theorem dX2_answerOf_16 : decode cX2_answerOf 16 = .ok (.if_icmp .le 9, 3) := by decide +kernel
theorem dX2_answerOf_19 : decode cX2_answerOf 19 = .ok (.bipush 6, 2) := by decide +kernel
theorem dX2_answerOf_21 : decode cX2_answerOf 21 = .ok (.invokestatic 130, 3) := by decide +kernel
theorem dX2_answerOf_24 : decode cX2_answerOf 24 = .ok (.ireturn, 1) := by decide +kernel
theorem dX2_answerOf_25 : decode cX2_answerOf 25 = .ok (.iload_n 1, 1) := by decide +kernel
theorem dX2_answerOf_26 : decode cX2_answerOf 26 = .ok (.tableswitch 162 0 11 #[62, 68, 74, 80, 88, 97, 103, 119, 136, 142, 149, 155], 62) := by decide +kernel
theorem dX2_answerOf_88 : decode cX2_answerOf 88 = .ok (.aload_n 0, 1) := by decide +kernel
theorem dX2_answerOf_89 : decode cX2_answerOf 89 = .ok (.iload_n 2, 1) := by decide +kernel
theorem dX2_answerOf_90 : decode cX2_answerOf 90 = .ok (.invokevirtual 133, 3) := by decide +kernel
theorem dX2_answerOf_93 : decode cX2_answerOf 93 = .ok (.ireturn, 1) := by decide +kernel
theorem dX2_answerOf_94 : decode cX2_answerOf 94 = .ok (.aload_n 0, 1) := by decide +kernel
theorem dX2_answerOf_95 : decode cX2_answerOf 95 = .ok (.iload_n 2, 1) := by decide +kernel
theorem dX2_answerOf_96 : decode cX2_answerOf 96 = .ok (.invokevirtual 136, 3) := by decide +kernel
theorem dX2_answerOf_99 : decode cX2_answerOf 99 = .ok (.ireturn, 1) := by decide +kernel
theorem dX2_answerOf_100 : decode cX2_answerOf 100 = .ok (.aload_n 0, 1) := by decide +kernel
theorem dX2_answerOf_101 : decode cX2_answerOf 101 = .ok (.iload_n 2, 1) := by decide +kernel
theorem dX2_answerOf_102 : decode cX2_answerOf 102 = .ok (.invokevirtual 139, 3) := by decide +kernel
theorem dX2_answerOf_105 : decode cX2_answerOf 105 = .ok (.ireturn, 1) := by decide +kernel
theorem dX2_answerOf_106 : decode cX2_answerOf 106 = .ok (.aload_n 0, 1) := by decide +kernel
theorem dX2_answerOf_107 : decode cX2_answerOf 107 = .ok (.iload_n 2, 1) := by decide +kernel
theorem dX2_answerOf_108 : decode cX2_answerOf 108 = .ok (.iload 4, 2) := by decide +kernel
theorem dX2_answerOf_110 : decode cX2_answerOf 110 = .ok (.invokevirtual 142, 3) := by decide +kernel
theorem dX2_answerOf_113 : decode cX2_answerOf 113 = .ok (.ireturn, 1) := by decide +kernel
theorem dX2_answerOf_114 : decode cX2_answerOf 114 = .ok (.aload_n 0, 1) := by decide +kernel
theorem dX2_answerOf_115 : decode cX2_answerOf 115 = .ok (.iload_n 2, 1) := by decide +kernel
theorem dX2_answerOf_116 : decode cX2_answerOf 116 = .ok (.iload_n 3, 1) := by decide +kernel
theorem dX2_answerOf_117 : decode cX2_answerOf 117 = .ok (.iload 4, 2) := by decide +kernel
theorem dX2_answerOf_119 : decode cX2_answerOf 119 = .ok (.invokevirtual 145, 3) := by decide +kernel
theorem dX2_answerOf_122 : decode cX2_answerOf 122 = .ok (.ireturn, 1) := by decide +kernel
theorem dX2_answerOf_123 : decode cX2_answerOf 123 = .ok (.aload_n 0, 1) := by decide +kernel
theorem dX2_answerOf_124 : decode cX2_answerOf 124 = .ok (.iload_n 2, 1) := by decide +kernel
theorem dX2_answerOf_125 : decode cX2_answerOf 125 = .ok (.invokevirtual 149, 3) := by decide +kernel
theorem dX2_answerOf_128 : decode cX2_answerOf 128 = .ok (.ireturn, 1) := by decide +kernel
theorem dX2_answerOf_129 : decode cX2_answerOf 129 = .ok (.aload_n 0, 1) := by decide +kernel
theorem dX2_answerOf_130 : decode cX2_answerOf 130 = .ok (.iload_n 2, 1) := by decide +kernel
theorem dX2_answerOf_131 : decode cX2_answerOf 131 = .ok (.iload 4, 2) := by decide +kernel
theorem dX2_answerOf_133 : decode cX2_answerOf 133 = .ok (.ifCond .eq 7, 3) := by decide +kernel
theorem dX2_answerOf_136 : decode cX2_answerOf 136 = .ok (.iconst 1, 1) := by decide +kernel
theorem dX2_answerOf_137 : decode cX2_answerOf 137 = .ok (.goto 4, 3) := by decide +kernel
theorem dX2_answerOf_140 : decode cX2_answerOf 140 = .ok (.iconst 0, 1) := by decide +kernel
theorem dX2_answerOf_141 : decode cX2_answerOf 141 = .ok (.invokevirtual 152, 3) := by decide +kernel
theorem dX2_answerOf_144 : decode cX2_answerOf 144 = .ok (.ireturn, 1) := by decide +kernel
theorem dX2_answerOf_145 : decode cX2_answerOf 145 = .ok (.aload_n 0, 1) := by decide +kernel
theorem dX2_answerOf_146 : decode cX2_answerOf 146 = .ok (.iload_n 2, 1) := by decide +kernel
theorem dX2_answerOf_147 : decode cX2_answerOf 147 = .ok (.iload_n 3, 1) := by decide +kernel
theorem dX2_answerOf_148 : decode cX2_answerOf 148 = .ok (.iload 4, 2) := by decide +kernel
theorem dX2_answerOf_150 : decode cX2_answerOf 150 = .ok (.ifCond .eq 7, 3) := by decide +kernel
theorem dX2_answerOf_153 : decode cX2_answerOf 153 = .ok (.iconst 1, 1) := by decide +kernel
theorem dX2_answerOf_154 : decode cX2_answerOf 154 = .ok (.goto 4, 3) := by decide +kernel
theorem dX2_answerOf_157 : decode cX2_answerOf 157 = .ok (.iconst 0, 1) := by decide +kernel
theorem dX2_answerOf_158 : decode cX2_answerOf 158 = .ok (.invokevirtual 156, 3) := by decide +kernel
theorem dX2_answerOf_161 : decode cX2_answerOf 161 = .ok (.ireturn, 1) := by decide +kernel
theorem dX2_answerOf_162 : decode cX2_answerOf 162 = .ok (.aload_n 0, 1) := by decide +kernel
theorem dX2_answerOf_163 : decode cX2_answerOf 163 = .ok (.iload_n 2, 1) := by decide +kernel
theorem dX2_answerOf_164 : decode cX2_answerOf 164 = .ok (.invokevirtual 160, 3) := by decide +kernel
theorem dX2_answerOf_167 : decode cX2_answerOf 167 = .ok (.ireturn, 1) := by decide +kernel
theorem dX2_answerOf_168 : decode cX2_answerOf 168 = .ok (.aload_n 0, 1) := by decide +kernel
theorem dX2_answerOf_169 : decode cX2_answerOf 169 = .ok (.iload_n 2, 1) := by decide +kernel
theorem dX2_answerOf_170 : decode cX2_answerOf 170 = .ok (.iload_n 3, 1) := by decide +kernel
theorem dX2_answerOf_171 : decode cX2_answerOf 171 = .ok (.invokevirtual 163, 3) := by decide +kernel
theorem dX2_answerOf_174 : decode cX2_answerOf 174 = .ok (.ireturn, 1) := by decide +kernel
theorem dX2_answerOf_175 : decode cX2_answerOf 175 = .ok (.aload_n 0, 1) := by decide +kernel
theorem dX2_answerOf_176 : decode cX2_answerOf 176 = .ok (.iload_n 2, 1) := by decide +kernel
theorem dX2_answerOf_177 : decode cX2_answerOf 177 = .ok (.invokevirtual 166, 3) := by decide +kernel
theorem dX2_answerOf_180 : decode cX2_answerOf 180 = .ok (.ireturn, 1) := by decide +kernel
theorem dX2_answerOf_181 : decode cX2_answerOf 181 = .ok (.aload_n 0, 1) := by decide +kernel
theorem dX2_answerOf_182 : decode cX2_answerOf 182 = .ok (.iload 4, 2) := by decide +kernel
theorem dX2_answerOf_184 : decode cX2_answerOf 184 = .ok (.invokevirtual 169, 3) := by decide +kernel
theorem dX2_answerOf_187 : decode cX2_answerOf 187 = .ok (.ireturn, 1) := by decide +kernel
theorem dX2_answerOf_188 : decode cX2_answerOf 188 = .ok (.aload_n 0, 1) := by decide +kernel
theorem dX2_answerOf_189 : decode cX2_answerOf 189 = .ok (.iload_n 2, 1) := by decide +kernel
theorem dX2_answerOf_190 : decode cX2_answerOf 190 = .ok (.iload 4, 2) := by decide +kernel
theorem dX2_answerOf_192 : decode cX2_answerOf 192 = .ok (.invokevirtual 172, 3) := by decide +kernel
theorem dX2_answerOf_195 : decode cX2_answerOf 195 = .ok (.ireturn, 1) := by decide +kernel
set_option maxRecDepth 20000 in
theorem ggX2_sum_X2_fault : GoodIn wsX2_sum wsX2_fault := goodIn_r _ [5] (by decide +kernel) (by decide +kernel)
set_option maxRecDepth 20000 in
theorem gX2_sum_X2_fault : GoodIn wsX2_sum (va_wsS RX2 130 yX2_fault wsX2_fault) := goodIn_app (goodIn_of _ (by decide +kernel)) ggX2_sum_X2_fault
set_option maxRecDepth 20000 in
theorem ggX2_sum_X1_isNumbers : GoodIn wsX2_sum wsX1_isNumbers := goodIn_r _ [10, 11, 12, 13, 14, 9, 15, 16, 72, 73, 74, 75, 76] (by decide +kernel) (by decide +kernel)
set_option maxRecDepth 20000 in
theorem gX2_sum_X1_isNumbers : GoodIn wsX2_sum (wsV RX2 47 RX1 yX1_isNumbers wsX1_isNumbers) := goodIn_app (goodIn_of _ (by decide +kernel)) ggX2_sum_X1_isNumbers
set_option maxRecDepth 20000 in
theorem ggX2_sum_X2_totalOf : GoodIn wsX2_sum wsX2_totalOf := goodIn_r _ [20, 1, 21, 22, 23, 9, 24, 25, 12, 13, 14, 15, 16, 26, 27, 28, 29, 30, 31, 32, 33, 34, 67, 68, 69, 70, 71, 72, 73, 74, 75, 76] (by decide +kernel) (by decide +kernel)
set_option maxRecDepth 20000 in
theorem gX2_sum_X2_totalOf : GoodIn wsX2_sum (wsV RX2 175 RX2 yX2_totalOf wsX2_totalOf) := goodIn_app (goodIn_of _ (by decide +kernel)) ggX2_sum_X2_totalOf
set_option maxRecDepth 20000 in
theorem ggX2_sum_X1_addSingle : GoodIn wsX2_sum wsX1_addSingle := goodIn_r _ [38, 39, 40, 41, 9, 42, 16, 11, 25, 43, 30, 44, 4, 45, 46, 47, 48, 49, 50, 51, 31, 32, 33, 34, 52, 53, 54, 72, 73, 74, 75, 76] (by decide +kernel) (by decide +kernel)
set_option maxRecDepth 20000 in
theorem gX2_sum_X1_addSingle : GoodIn wsX2_sum (wsV RX2 179 RX1 yX1_addSingle wsX1_addSingle) := goodIn_app (goodIn_of _ (by decide +kernel)) ggX2_sum_X1_addSingle
set_option maxRecDepth 20000 in
theorem ggX2_sum_X1_isA : GoodIn wsX2_sum wsX1_isA := goodIn_r _ [58, 11, 12, 13, 14, 9, 15, 16, 59, 4, 60, 72, 73, 74, 75, 76] (by decide +kernel) (by decide +kernel)
set_option maxRecDepth 20000 in
theorem gX2_sum_X1_isA : GoodIn wsX2_sum (wsV RX2 58 RX1 yX1_isA wsX1_isA) := goodIn_app (goodIn_of _ (by decide +kernel)) ggX2_sum_X1_isA
set_option maxRecDepth 20000 in
theorem ggX2_sum_X1_lengthOf : GoodIn wsX2_sum wsX1_lengthOf := goodIn_r _ [24, 25, 12, 13, 14, 9, 15, 16, 72, 73, 74, 75, 76] (by decide +kernel) (by decide +kernel)
set_option maxRecDepth 20000 in
theorem gX2_sum_X1_lengthOf : GoodIn wsX2_sum (wsV RX2 116 RX1 yX1_lengthOf wsX1_lengthOf) := goodIn_app (goodIn_of _ (by decide +kernel)) ggX2_sum_X1_lengthOf
set_option maxRecDepth 20000 in
theorem ggX2_sum_X1_add : GoodIn wsX2_sum wsX1_add := goodIn_r _ [42, 16, 11, 25, 43, 30, 44, 4, 45, 46, 47, 72, 73, 74, 75, 76] (by decide +kernel) (by decide +kernel)
set_option maxRecDepth 20000 in
theorem gX2_sum_X1_add : GoodIn wsX2_sum (wsV RX2 37 RX1 yX1_add wsX1_add) := goodIn_app (goodIn_of _ (by decide +kernel)) ggX2_sum_X1_add
set_option maxRecDepth 20000 in
theorem ggX2_sum_X1_placed : GoodIn wsX2_sum wsX1_placed := goodIn_r _ [65, 30, 31, 32, 33, 9, 34, 16, 25, 72, 73, 74, 75, 76] (by decide +kernel) (by decide +kernel)
set_option maxRecDepth 20000 in
theorem gX2_sum_X1_placed : GoodIn wsX2_sum (wsV RX2 183 RX1 yX1_placed wsX1_placed) := goodIn_app (goodIn_of _ (by decide +kernel)) ggX2_sum_X1_placed
set_option maxRecDepth 20000 in
theorem ggX2_sum_X1_put : GoodIn wsX2_sum wsX1_put := goodIn_r _ [51, 30, 11, 31, 32, 33, 9, 34, 16, 25, 52, 53, 54, 72, 73, 74, 75, 76] (by decide +kernel) (by decide +kernel)
set_option maxRecDepth 20000 in
theorem gX2_sum_X1_put : GoodIn wsX2_sum (wsV RX2 54 RX1 yX1_put wsX1_put) := goodIn_app (goodIn_of _ (by decide +kernel)) ggX2_sum_X1_put
theorem dX2_sum_0 : decode cX2_sum 0 = .ok (.iload_n 1, 1) := by decide +kernel
