theorem dX0_init_0 : decode cX0_init 0 = .ok (.aload_n 0, 1) := by decide +kernel
theorem dX0_init_1 : decode cX0_init 1 = .ok (.invokespecial 3, 3) := by decide +kernel
theorem dX0_init_4 : decode cX0_init 4 = .ok (.aload_n 0, 1) := by decide +kernel
theorem dX0_init_5 : decode cX0_init 5 = .ok (.bipush 6, 2) := by decide +kernel
theorem dX0_init_7 : decode cX0_init 7 = .ok (.newarray .int, 2) := by decide +kernel
theorem dX0_init_9 : decode cX0_init 9 = .ok (.putfield 9, 3) := by decide +kernel
theorem dX0_init_12 : decode cX0_init 12 = .ok (.aload_n 0, 1) := by decide +kernel
theorem dX0_init_13 : decode cX0_init 13 = .ok (.bipush 72, 2) := by decide +kernel
theorem dX0_init_15 : decode cX0_init 15 = .ok (.newarray .int, 2) := by decide +kernel
theorem dX0_init_17 : decode cX0_init 17 = .ok (.putfield 15, 3) := by decide +kernel
theorem dX0_init_20 : decode cX0_init 20 = .ok (.aload_n 0, 1) := by decide +kernel
theorem dX0_init_21 : decode cX0_init 21 = .ok (.bipush 72, 2) := by decide +kernel
theorem dX0_init_23 : decode cX0_init 23 = .ok (.newarray .int, 2) := by decide +kernel
theorem dX0_init_25 : decode cX0_init 25 = .ok (.putfield 18, 3) := by decide +kernel
theorem dX0_init_28 : decode cX0_init 28 = .ok (.aload_n 0, 1) := by decide +kernel
theorem dX0_init_29 : decode cX0_init 29 = .ok (.bipush 72, 2) := by decide +kernel
theorem dX0_init_31 : decode cX0_init 31 = .ok (.newarray .int, 2) := by decide +kernel
theorem dX0_init_33 : decode cX0_init 33 = .ok (.putfield 21, 3) := by decide +kernel
theorem dX0_init_36 : decode cX0_init 36 = .ok (.return_, 1) := by decide +kernel
theorem dX0_has_0 : decode cX0_has 0 = .ok (.iload_n 1, 1) := by decide +kernel
theorem dX0_has_1 : decode cX0_has 1 = .ok (.ifCond .lt 13, 3) := by decide +kernel
theorem dX0_has_4 : decode cX0_has 4 = .ok (.iload_n 1, 1) := by decide +kernel
theorem dX0_has_5 : decode cX0_has 5 = .ok (.bipush 6, 2) := by decide +kernel
theorem dX0_has_7 : decode cX0_has 7 = .ok (.if_icmp .ge 7, 3) := by decide +kernel
theorem dX0_has_10 : decode cX0_has 10 = .ok (.iconst 1, 1) := by decide +kernel
theorem dX0_has_11 : decode cX0_has 11 = .ok (.goto 4, 3) := by decide +kernel
theorem dX0_has_14 : decode cX0_has 14 = .ok (.iconst 0, 1) := by decide +kernel
theorem dX0_has_15 : decode cX0_has 15 = .ok (.ireturn, 1) := by decide +kernel
set_option maxRecDepth 20000 in
theorem ggX0_hasStep_X0_has : GoodIn wsX0_hasStep wsX0_has := goodIn_r _ [6] (by decide +kernel) (by decide +kernel)
set_option maxRecDepth 20000 in
theorem gX0_hasStep_X0_has : GoodIn wsX0_hasStep (wsV RX0 24 RX0 yX0_has wsX0_has) := goodIn_app (goodIn_of _ (by decide +kernel)) ggX0_hasStep_X0_has
theorem dX0_hasStep_0 : decode cX0_hasStep 0 = .ok (.aload_n 0, 1) := by decide +kernel
theorem dX0_hasStep_1 : decode cX0_hasStep 1 = .ok (.iload_n 1, 1) := by decide +kernel
theorem dX0_hasStep_2 : decode cX0_hasStep 2 = .ok (.invokevirtual 24, 3) := by decide +kernel
theorem dX0_hasStep_5 : decode cX0_hasStep 5 = .ok (.ifCond .eq 21, 3) := by decide +kernel
theorem dX0_hasStep_8 : decode cX0_hasStep 8 = .ok (.iload_n 2, 1) := by decide +kernel
theorem dX0_hasStep_9 : decode cX0_hasStep 9 = .ok (.ifCond .lt 17, 3) := by decide +kernel
theorem dX0_hasStep_12 : decode cX0_hasStep 12 = .ok (.iload_n 2, 1) := by decide +kernel
theorem dX0_hasStep_13 : decode cX0_hasStep 13 = .ok (.aload_n 0, 1) := by decide +kernel
theorem dX0_hasStep_14 : decode cX0_hasStep 14 = .ok (.getfield 9, 3) := by decide +kernel
theorem dX0_hasStep_17 : decode cX0_hasStep 17 = .ok (.iload_n 1, 1) := by decide +kernel
theorem dX0_hasStep_18 : decode cX0_hasStep 18 = .ok (.iaload, 1) := by decide +kernel
theorem dX0_hasStep_19 : decode cX0_hasStep 19 = .ok (.if_icmp .ge 7, 3) := by decide +kernel
theorem dX0_hasStep_22 : decode cX0_hasStep 22 = .ok (.iconst 1, 1) := by decide +kernel
theorem dX0_hasStep_23 : decode cX0_hasStep 23 = .ok (.goto 4, 3) := by decide +kernel
theorem dX0_hasStep_26 : decode cX0_hasStep 26 = .ok (.iconst 0, 1) := by decide +kernel
theorem dX0_hasStep_27 : decode cX0_hasStep 27 = .ok (.ireturn, 1) := by decide +kernel
set_option maxRecDepth 20000 in
theorem ggX0_lengthOf_X0_has : GoodIn wsX0_lengthOf wsX0_has := goodIn_r _ [6] (by decide +kernel) (by decide +kernel)
set_option maxRecDepth 20000 in
theorem gX0_lengthOf_X0_has : GoodIn wsX0_lengthOf (wsV RX0 24 RX0 yX0_has wsX0_has) := goodIn_app (goodIn_of _ (by decide +kernel)) ggX0_lengthOf_X0_has
theorem dX0_lengthOf_0 : decode cX0_lengthOf 0 = .ok (.aload_n 0, 1) := by decide +kernel
theorem dX0_lengthOf_1 : decode cX0_lengthOf 1 = .ok (.iload_n 1, 1) := by decide +kernel
theorem dX0_lengthOf_2 : decode cX0_lengthOf 2 = .ok (.invokevirtual 24, 3) := by decide +kernel
theorem dX0_lengthOf_5 : decode cX0_lengthOf 5 = .ok (.ifCond .eq 12, 3) := by decide +kernel
theorem dX0_lengthOf_8 : decode cX0_lengthOf 8 = .ok (.aload_n 0, 1) := by decide +kernel
theorem dX0_lengthOf_9 : decode cX0_lengthOf 9 = .ok (.getfield 9, 3) := by decide +kernel
theorem dX0_lengthOf_12 : decode cX0_lengthOf 12 = .ok (.iload_n 1, 1) := by decide +kernel
theorem dX0_lengthOf_13 : decode cX0_lengthOf 13 = .ok (.iaload, 1) := by decide +kernel
theorem dX0_lengthOf_14 : decode cX0_lengthOf 14 = .ok (.goto 4, 3) := by decide +kernel
theorem dX0_lengthOf_17 : decode cX0_lengthOf 17 = .ok (.iconst 0, 1) := by decide +kernel
theorem dX0_lengthOf_18 : decode cX0_lengthOf 18 = .ok (.ireturn, 1) := by decide +kernel
set_option maxRecDepth 20000 in
theorem ggX0_actOf_X0_hasStep : GoodIn wsX0_actOf wsX0_hasStep := goodIn_r _ [6, 7, 8, 9, 10, 5, 11, 12, 13, 14, 15] (by decide +kernel) (by decide +kernel)
set_option maxRecDepth 20000 in
theorem gX0_actOf_X0_hasStep : GoodIn wsX0_actOf (wsV RX0 28 RX0 yX0_hasStep wsX0_hasStep) := goodIn_app (goodIn_of _ (by decide +kernel)) ggX0_actOf_X0_hasStep
theorem dX0_actOf_0 : decode cX0_actOf 0 = .ok (.aload_n 0, 1) := by decide +kernel
theorem dX0_actOf_1 : decode cX0_actOf 1 = .ok (.iload_n 1, 1) := by decide +kernel
theorem dX0_actOf_2 : decode cX0_actOf 2 = .ok (.iload_n 2, 1) := by decide +kernel
theorem dX0_actOf_3 : decode cX0_actOf 3 = .ok (.invokevirtual 28, 3) := by decide +kernel
theorem dX0_actOf_6 : decode cX0_actOf 6 = .ok (.ifCond .eq 17, 3) := by decide +kernel
theorem dX0_actOf_9 : decode cX0_actOf 9 = .ok (.aload_n 0, 1) := by decide +kernel
theorem dX0_actOf_10 : decode cX0_actOf 10 = .ok (.getfield 15, 3) := by decide +kernel
theorem dX0_actOf_13 : decode cX0_actOf 13 = .ok (.iload_n 1, 1) := by decide +kernel
theorem dX0_actOf_14 : decode cX0_actOf 14 = .ok (.bipush 12, 2) := by decide +kernel
theorem dX0_actOf_16 : decode cX0_actOf 16 = .ok (.imul, 1) := by decide +kernel
theorem dX0_actOf_17 : decode cX0_actOf 17 = .ok (.iload_n 2, 1) := by decide +kernel
theorem dX0_actOf_18 : decode cX0_actOf 18 = .ok (.iadd, 1) := by decide +kernel
theorem dX0_actOf_19 : decode cX0_actOf 19 = .ok (.iaload, 1) := by decide +kernel
theorem dX0_actOf_20 : decode cX0_actOf 20 = .ok (.goto 5, 3) := by decide +kernel
theorem dX0_actOf_23 : decode cX0_actOf 23 = .ok (.bipush 12, 2) := by decide +kernel
theorem dX0_actOf_25 : decode cX0_actOf 25 = .ok (.ireturn, 1) := by decide +kernel
set_option maxRecDepth 20000 in
theorem ggX0_yOf_X0_hasStep : GoodIn wsX0_yOf wsX0_hasStep := goodIn_r _ [6, 7, 8, 9, 10, 5, 11, 12, 13, 14, 15] (by decide +kernel) (by decide +kernel)
set_option maxRecDepth 20000 in
theorem gX0_yOf_X0_hasStep : GoodIn wsX0_yOf (wsV RX0 28 RX0 yX0_hasStep wsX0_hasStep) := goodIn_app (goodIn_of _ (by decide +kernel)) ggX0_yOf_X0_hasStep
theorem dX0_yOf_0 : decode cX0_yOf 0 = .ok (.aload_n 0, 1) := by decide +kernel
theorem dX0_yOf_1 : decode cX0_yOf 1 = .ok (.iload_n 1, 1) := by decide +kernel
theorem dX0_yOf_2 : decode cX0_yOf 2 = .ok (.iload_n 2, 1) := by decide +kernel
theorem dX0_yOf_3 : decode cX0_yOf 3 = .ok (.invokevirtual 28, 3) := by decide +kernel
theorem dX0_yOf_6 : decode cX0_yOf 6 = .ok (.ifCond .eq 17, 3) := by decide +kernel
theorem dX0_yOf_9 : decode cX0_yOf 9 = .ok (.aload_n 0, 1) := by decide +kernel
theorem dX0_yOf_10 : decode cX0_yOf 10 = .ok (.getfield 18, 3) := by decide +kernel
theorem dX0_yOf_13 : decode cX0_yOf 13 = .ok (.iload_n 1, 1) := by decide +kernel
theorem dX0_yOf_14 : decode cX0_yOf 14 = .ok (.bipush 12, 2) := by decide +kernel
theorem dX0_yOf_16 : decode cX0_yOf 16 = .ok (.imul, 1) := by decide +kernel
theorem dX0_yOf_17 : decode cX0_yOf 17 = .ok (.iload_n 2, 1) := by decide +kernel
theorem dX0_yOf_18 : decode cX0_yOf 18 = .ok (.iadd, 1) := by decide +kernel
theorem dX0_yOf_19 : decode cX0_yOf 19 = .ok (.iaload, 1) := by decide +kernel
theorem dX0_yOf_20 : decode cX0_yOf 20 = .ok (.goto 4, 3) := by decide +kernel
theorem dX0_yOf_23 : decode cX0_yOf 23 = .ok (.iconst (-1), 1) := by decide +kernel
theorem dX0_yOf_24 : decode cX0_yOf 24 = .ok (.ireturn, 1) := by decide +kernel
set_option maxRecDepth 20000 in
theorem ggX0_nOf_X0_hasStep : GoodIn wsX0_nOf wsX0_hasStep := goodIn_r _ [6, 7, 8, 9, 10, 5, 11, 12, 13, 14, 15] (by decide +kernel) (by decide +kernel)
set_option maxRecDepth 20000 in
theorem gX0_nOf_X0_hasStep : GoodIn wsX0_nOf (wsV RX0 28 RX0 yX0_hasStep wsX0_hasStep) := goodIn_app (goodIn_of _ (by decide +kernel)) ggX0_nOf_X0_hasStep
theorem dX0_nOf_0 : decode cX0_nOf 0 = .ok (.aload_n 0, 1) := by decide +kernel
theorem dX0_nOf_1 : decode cX0_nOf 1 = .ok (.iload_n 1, 1) := by decide +kernel
theorem dX0_nOf_2 : decode cX0_nOf 2 = .ok (.iload_n 2, 1) := by decide +kernel
theorem dX0_nOf_3 : decode cX0_nOf 3 = .ok (.invokevirtual 28, 3) := by decide +kernel
theorem dX0_nOf_6 : decode cX0_nOf 6 = .ok (.ifCond .eq 17, 3) := by decide +kernel
theorem dX0_nOf_9 : decode cX0_nOf 9 = .ok (.aload_n 0, 1) := by decide +kernel
theorem dX0_nOf_10 : decode cX0_nOf 10 = .ok (.getfield 21, 3) := by decide +kernel
theorem dX0_nOf_13 : decode cX0_nOf 13 = .ok (.iload_n 1, 1) := by decide +kernel
theorem dX0_nOf_14 : decode cX0_nOf 14 = .ok (.bipush 12, 2) := by decide +kernel
theorem dX0_nOf_16 : decode cX0_nOf 16 = .ok (.imul, 1) := by decide +kernel
theorem dX0_nOf_17 : decode cX0_nOf 17 = .ok (.iload_n 2, 1) := by decide +kernel
theorem dX0_nOf_18 : decode cX0_nOf 18 = .ok (.iadd, 1) := by decide +kernel
theorem dX0_nOf_19 : decode cX0_nOf 19 = .ok (.iaload, 1) := by decide +kernel
theorem dX0_nOf_20 : decode cX0_nOf 20 = .ok (.goto 4, 3) := by decide +kernel
theorem dX0_nOf_23 : decode cX0_nOf 23 = .ok (.iconst 0, 1) := by decide +kernel
theorem dX0_nOf_24 : decode cX0_nOf 24 = .ok (.ireturn, 1) := by decide +kernel
set_option maxRecDepth 20000 in
theorem ggX0_append_X0_has : GoodIn wsX0_append wsX0_has := goodIn_r _ [9] (by decide +kernel) (by decide +kernel)
set_option maxRecDepth 20000 in
theorem gX0_append_X0_has : GoodIn wsX0_append (wsV RX0 24 RX0 yX0_has wsX0_has) := goodIn_app (goodIn_of _ (by decide +kernel)) ggX0_append_X0_has
theorem dX0_append_0 : decode cX0_append 0 = .ok (.aload_n 0, 1) := by decide +kernel
theorem dX0_append_1 : decode cX0_append 1 = .ok (.iload_n 1, 1) := by decide +kernel
theorem dX0_append_2 : decode cX0_append 2 = .ok (.invokevirtual 24, 3) := by decide +kernel
theorem dX0_append_5 : decode cX0_append 5 = .ok (.ifCond .eq 14, 3) := by decide +kernel
theorem dX0_append_8 : decode cX0_append 8 = .ok (.aload_n 0, 1) := by decide +kernel
theorem dX0_append_9 : decode cX0_append 9 = .ok (.getfield 9, 3) := by decide +kernel
theorem dX0_append_12 : decode cX0_append 12 = .ok (.iload_n 1, 1) := by decide +kernel
theorem dX0_append_13 : decode cX0_append 13 = .ok (.iaload, 1) := by decide +kernel
theorem dX0_append_14 : decode cX0_append 14 = .ok (.bipush 12, 2) := by decide +kernel
theorem dX0_append_16 : decode cX0_append 16 = .ok (.if_icmp .lt 6, 3) := by decide +kernel
theorem dX0_append_19 : decode cX0_append 19 = .ok (.bipush (-4), 2) := by decide +kernel
theorem dX0_append_21 : decode cX0_append 21 = .ok (.ireturn, 1) := by decide +kernel
theorem dX0_append_22 : decode cX0_append 22 = .ok (.iload_n 1, 1) := by decide +kernel
theorem dX0_append_23 : decode cX0_append 23 = .ok (.bipush 12, 2) := by decide +kernel
theorem dX0_append_25 : decode cX0_append 25 = .ok (.imul, 1) := by decide +kernel
theorem dX0_append_26 : decode cX0_append 26 = .ok (.aload_n 0, 1) := by decide +kernel
theorem dX0_append_27 : decode cX0_append 27 = .ok (.getfield 9, 3) := by decide +kernel
theorem dX0_append_30 : decode cX0_append 30 = .ok (.iload_n 1, 1) := by decide +kernel
theorem dX0_append_31 : decode cX0_append 31 = .ok (.iaload, 1) := by decide +kernel
theorem dX0_append_32 : decode cX0_append 32 = .ok (.iadd, 1) := by decide +kernel
theorem dX0_append_33 : decode cX0_append 33 = .ok (.istore 5, 2) := by decide +kernel
theorem dX0_append_35 : decode cX0_append 35 = .ok (.aload_n 0, 1) := by decide +kernel
theorem dX0_append_36 : decode cX0_append 36 = .ok (.getfield 15, 3) := by decide +kernel
theorem dX0_append_39 : decode cX0_append 39 = .ok (.iload 5, 2) := by decide +kernel
theorem dX0_append_41 : decode cX0_append 41 = .ok (.iload_n 2, 1) := by decide +kernel
theorem dX0_append_42 : decode cX0_append 42 = .ok (.iastore, 1) := by decide +kernel
theorem dX0_append_43 : decode cX0_append 43 = .ok (.aload_n 0, 1) := by decide +kernel
theorem dX0_append_44 : decode cX0_append 44 = .ok (.getfield 18, 3) := by decide +kernel
theorem dX0_append_47 : decode cX0_append 47 = .ok (.iload 5, 2) := by decide +kernel
theorem dX0_append_49 : decode cX0_append 49 = .ok (.iload_n 3, 1) := by decide +kernel
theorem dX0_append_50 : decode cX0_append 50 = .ok (.iastore, 1) := by decide +kernel
theorem dX0_append_51 : decode cX0_append 51 = .ok (.aload_n 0, 1) := by decide +kernel
theorem dX0_append_52 : decode cX0_append 52 = .ok (.getfield 21, 3) := by decide +kernel
theorem dX0_append_55 : decode cX0_append 55 = .ok (.iload 5, 2) := by decide +kernel
theorem dX0_append_57 : decode cX0_append 57 = .ok (.iload 4, 2) := by decide +kernel
theorem dX0_append_59 : decode cX0_append 59 = .ok (.iastore, 1) := by decide +kernel
theorem dX0_append_60 : decode cX0_append 60 = .ok (.aload_n 0, 1) := by decide +kernel
theorem dX0_append_61 : decode cX0_append 61 = .ok (.getfield 9, 3) := by decide +kernel
theorem dX0_append_64 : decode cX0_append 64 = .ok (.iload_n 1, 1) := by decide +kernel
theorem dX0_append_65 : decode cX0_append 65 = .ok (.dup2, 1) := by decide +kernel
theorem dX0_append_66 : decode cX0_append 66 = .ok (.iaload, 1) := by decide +kernel
theorem dX0_append_67 : decode cX0_append 67 = .ok (.iconst 1, 1) := by decide +kernel
theorem dX0_append_68 : decode cX0_append 68 = .ok (.iadd, 1) := by decide +kernel
theorem dX0_append_69 : decode cX0_append 69 = .ok (.iastore, 1) := by decide +kernel
theorem dX0_append_70 : decode cX0_append 70 = .ok (.aload_n 0, 1) := by decide +kernel
theorem dX0_append_71 : decode cX0_append 71 = .ok (.getfield 9, 3) := by decide +kernel
theorem dX0_append_74 : decode cX0_append 74 = .ok (.iload_n 1, 1) := by decide +kernel
theorem dX0_append_75 : decode cX0_append 75 = .ok (.iaload, 1) := by decide +kernel
theorem dX0_append_76 : decode cX0_append 76 = .ok (.ireturn, 1) := by decide +kernel
set_option maxRecDepth 20000 in
theorem ggX0_drop_X0_lengthOf : GoodIn wsX0_drop wsX0_lengthOf := goodIn_r _ [6, 1, 7, 8, 9, 5, 10, 11, 12, 13, 14] (by decide +kernel) (by decide +kernel)
set_option maxRecDepth 20000 in
theorem gX0_drop_X0_lengthOf : GoodIn wsX0_drop (wsV RX0 32 RX0 yX0_lengthOf wsX0_lengthOf) := goodIn_app (goodIn_of _ (by decide +kernel)) ggX0_drop_X0_lengthOf
set_option maxRecDepth 20000 in
theorem ggX0_drop_X0_has : GoodIn wsX0_drop wsX0_has := goodIn_r _ [10] (by decide +kernel) (by decide +kernel)
set_option maxRecDepth 20000 in
theorem gX0_drop_X0_has : GoodIn wsX0_drop (wsV RX0 24 RX0 yX0_has wsX0_has) := goodIn_app (goodIn_of _ (by decide +kernel)) ggX0_drop_X0_has
theorem dX0_drop_0 : decode cX0_drop 0 = .ok (.aload_n 0, 1) := by decide +kernel
theorem dX0_drop_1 : decode cX0_drop 1 = .ok (.iload_n 1, 1) := by decide +kernel
theorem dX0_drop_2 : decode cX0_drop 2 = .ok (.invokevirtual 32, 3) := by decide +kernel
theorem dX0_drop_5 : decode cX0_drop 5 = .ok (.istore_n 2, 1) := by decide +kernel
theorem dX0_drop_6 : decode cX0_drop 6 = .ok (.aload_n 0, 1) := by decide +kernel
theorem dX0_drop_7 : decode cX0_drop 7 = .ok (.iload_n 1, 1) := by decide +kernel
theorem dX0_drop_8 : decode cX0_drop 8 = .ok (.invokevirtual 24, 3) := by decide +kernel
theorem dX0_drop_11 : decode cX0_drop 11 = .ok (.ifCond .eq 10, 3) := by decide +kernel
theorem dX0_drop_14 : decode cX0_drop 14 = .ok (.aload_n 0, 1) := by decide +kernel
theorem dX0_drop_15 : decode cX0_drop 15 = .ok (.getfield 9, 3) := by decide +kernel
theorem dX0_drop_18 : decode cX0_drop 18 = .ok (.iload_n 1, 1) := by decide +kernel
theorem dX0_drop_19 : decode cX0_drop 19 = .ok (.iconst 0, 1) := by decide +kernel
theorem dX0_drop_20 : decode cX0_drop 20 = .ok (.iastore, 1) := by decide +kernel
theorem dX0_drop_21 : decode cX0_drop 21 = .ok (.iload_n 2, 1) := by decide +kernel
theorem dX0_drop_22 : decode cX0_drop 22 = .ok (.ireturn, 1) := by decide +kernel
theorem dX0_dropAll_0 : decode cX0_dropAll 0 = .ok (.iconst 0, 1) := by decide +kernel
theorem dX0_dropAll_1 : decode cX0_dropAll 1 = .ok (.istore_n 1, 1) := by decide +kernel
theorem dX0_dropAll_2 : decode cX0_dropAll 2 = .ok (.iload_n 1, 1) := by decide +kernel
theorem dX0_dropAll_3 : decode cX0_dropAll 3 = .ok (.bipush 6, 2) := by decide +kernel
theorem dX0_dropAll_5 : decode cX0_dropAll 5 = .ok (.if_icmp .ge 16, 3) := by decide +kernel
theorem dX0_dropAll_8 : decode cX0_dropAll 8 = .ok (.aload_n 0, 1) := by decide +kernel
theorem dX0_dropAll_9 : decode cX0_dropAll 9 = .ok (.getfield 9, 3) := by decide +kernel
theorem dX0_dropAll_12 : decode cX0_dropAll 12 = .ok (.iload_n 1, 1) := by decide +kernel
theorem dX0_dropAll_13 : decode cX0_dropAll 13 = .ok (.iconst 0, 1) := by decide +kernel
theorem dX0_dropAll_14 : decode cX0_dropAll 14 = .ok (.iastore, 1) := by decide +kernel
theorem dX0_dropAll_15 : decode cX0_dropAll 15 = .ok (.iinc 1 1, 3) := by decide +kernel
theorem dX0_dropAll_18 : decode cX0_dropAll 18 = .ok (.goto (-16), 3) := by decide +kernel
theorem dX0_dropAll_21 : decode cX0_dropAll 21 = .ok (.return_, 1) := by decide +kernel
theorem dX1_init_0 : decode cX1_init 0 = .ok (.aload_n 0, 1) := by decide +kernel
theorem dX1_init_1 : decode cX1_init 1 = .ok (.invokespecial 3, 3) := by decide +kernel
theorem dX1_init_4 : decode cX1_init 4 = .ok (.aload_n 0, 1) := by decide +kernel
theorem dX1_init_5 : decode cX1_init 5 = .ok (.bipush 60, 2) := by decide +kernel
theorem dX1_init_7 : decode cX1_init 7 = .ok (.newarray .int, 2) := by decide +kernel
theorem dX1_init_9 : decode cX1_init 9 = .ok (.putfield 9, 3) := by decide +kernel
theorem dX1_init_12 : decode cX1_init 12 = .ok (.aload_n 0, 1) := by decide +kernel
theorem dX1_init_13 : decode cX1_init 13 = .ok (.bipush 60, 2) := by decide +kernel
theorem dX1_init_15 : decode cX1_init 15 = .ok (.newarray .int, 2) := by decide +kernel
theorem dX1_init_17 : decode cX1_init 17 = .ok (.putfield 15, 3) := by decide +kernel
theorem dX1_init_20 : decode cX1_init 20 = .ok (.aload_n 0, 1) := by decide +kernel
theorem dX1_init_21 : decode cX1_init 21 = .ok (.bipush 60, 2) := by decide +kernel
theorem dX1_init_23 : decode cX1_init 23 = .ok (.newarray .int, 2) := by decide +kernel
theorem dX1_init_25 : decode cX1_init 25 = .ok (.putfield 18, 3) := by decide +kernel
theorem dX1_init_28 : decode cX1_init 28 = .ok (.aload_n 0, 1) := by decide +kernel
theorem dX1_init_29 : decode cX1_init 29 = .ok (.sipush 480, 3) := by decide +kernel
theorem dX1_init_32 : decode cX1_init 32 = .ok (.newarray .long, 2) := by decide +kernel
theorem dX1_init_34 : decode cX1_init 34 = .ok (.putfield 21, 3) := by decide +kernel
theorem dX1_init_37 : decode cX1_init 37 = .ok (.aload_n 0, 1) := by decide +kernel
theorem dX1_init_38 : decode cX1_init 38 = .ok (.iconst 0, 1) := by decide +kernel
theorem dX1_init_39 : decode cX1_init 39 = .ok (.putfield 25, 3) := by decide +kernel
theorem dX1_init_42 : decode cX1_init 42 = .ok (.return_, 1) := by decide +kernel
theorem dX1_made_0 : decode cX1_made 0 = .ok (.aload_n 0, 1) := by decide +kernel
theorem dX1_made_1 : decode cX1_made 1 = .ok (.getfield 25, 3) := by decide +kernel
theorem dX1_made_4 : decode cX1_made 4 = .ok (.ireturn, 1) := by decide +kernel
theorem dX1_has_0 : decode cX1_has 0 = .ok (.iload_n 1, 1) := by decide +kernel
theorem dX1_has_1 : decode cX1_has 1 = .ok (.ifCond .lt 15, 3) := by decide +kernel
theorem dX1_has_4 : decode cX1_has 4 = .ok (.iload_n 1, 1) := by decide +kernel
theorem dX1_has_5 : decode cX1_has 5 = .ok (.aload_n 0, 1) := by decide +kernel
theorem dX1_has_6 : decode cX1_has 6 = .ok (.getfield 25, 3) := by decide +kernel
theorem dX1_has_9 : decode cX1_has 9 = .ok (.if_icmp .ge 7, 3) := by decide +kernel
theorem dX1_has_12 : decode cX1_has 12 = .ok (.iconst 1, 1) := by decide +kernel
theorem dX1_has_13 : decode cX1_has 13 = .ok (.goto 4, 3) := by decide +kernel
theorem dX1_has_16 : decode cX1_has 16 = .ok (.iconst 0, 1) := by decide +kernel
theorem dX1_has_17 : decode cX1_has 17 = .ok (.ireturn, 1) := by decide +kernel
theorem dX1_hasPlace_0 : decode cX1_hasPlace 0 = .ok (.iload_n 1, 1) := by decide +kernel
theorem dX1_hasPlace_1 : decode cX1_hasPlace 1 = .ok (.ifCond .lt 29, 3) := by decide +kernel
theorem dX1_hasPlace_4 : decode cX1_hasPlace 4 = .ok (.iload_n 1, 1) := by decide +kernel
theorem dX1_hasPlace_5 : decode cX1_hasPlace 5 = .ok (.aload_n 0, 1) := by decide +kernel
theorem dX1_hasPlace_6 : decode cX1_hasPlace 6 = .ok (.getfield 25, 3) := by decide +kernel
theorem dX1_hasPlace_9 : decode cX1_hasPlace 9 = .ok (.if_icmp .ge 21, 3) := by decide +kernel
theorem dX1_hasPlace_12 : decode cX1_hasPlace 12 = .ok (.iload_n 2, 1) := by decide +kernel
theorem dX1_hasPlace_13 : decode cX1_hasPlace 13 = .ok (.ifCond .lt 17, 3) := by decide +kernel
theorem dX1_hasPlace_16 : decode cX1_hasPlace 16 = .ok (.iload_n 2, 1) := by decide +kernel
theorem dX1_hasPlace_17 : decode cX1_hasPlace 17 = .ok (.aload_n 0, 1) := by decide +kernel
theorem dX1_hasPlace_18 : decode cX1_hasPlace 18 = .ok (.getfield 15, 3) := by decide +kernel
theorem dX1_hasPlace_21 : decode cX1_hasPlace 21 = .ok (.iload_n 1, 1) := by decide +kernel
theorem dX1_hasPlace_22 : decode cX1_hasPlace 22 = .ok (.iaload, 1) := by decide +kernel
theorem dX1_hasPlace_23 : decode cX1_hasPlace 23 = .ok (.if_icmp .ge 7, 3) := by decide +kernel
theorem dX1_hasPlace_26 : decode cX1_hasPlace 26 = .ok (.iconst 1, 1) := by decide +kernel
theorem dX1_hasPlace_27 : decode cX1_hasPlace 27 = .ok (.goto 4, 3) := by decide +kernel
theorem dX1_hasPlace_30 : decode cX1_hasPlace 30 = .ok (.iconst 0, 1) := by decide +kernel
theorem dX1_hasPlace_31 : decode cX1_hasPlace 31 = .ok (.ireturn, 1) := by decide +kernel
set_option maxRecDepth 20000 in
theorem ggX1_formOf_X1_has : GoodIn wsX1_formOf wsX1_has := goodIn_r _ [6, 7, 8, 9, 10, 11, 12] (by decide +kernel) (by decide +kernel)
set_option maxRecDepth 20000 in
theorem gX1_formOf_X1_has : GoodIn wsX1_formOf (wsV RX1 29 RX1 yX1_has wsX1_has) := goodIn_app (goodIn_of _ (by decide +kernel)) ggX1_formOf_X1_has
theorem dX1_formOf_0 : decode cX1_formOf 0 = .ok (.aload_n 0, 1) := by decide +kernel
theorem dX1_formOf_1 : decode cX1_formOf 1 = .ok (.iload_n 1, 1) := by decide +kernel
theorem dX1_formOf_2 : decode cX1_formOf 2 = .ok (.invokevirtual 29, 3) := by decide +kernel
theorem dX1_formOf_5 : decode cX1_formOf 5 = .ok (.ifCond .eq 12, 3) := by decide +kernel
theorem dX1_formOf_8 : decode cX1_formOf 8 = .ok (.aload_n 0, 1) := by decide +kernel
theorem dX1_formOf_9 : decode cX1_formOf 9 = .ok (.getfield 9, 3) := by decide +kernel
theorem dX1_formOf_12 : decode cX1_formOf 12 = .ok (.iload_n 1, 1) := by decide +kernel
theorem dX1_formOf_13 : decode cX1_formOf 13 = .ok (.iaload, 1) := by decide +kernel
theorem dX1_formOf_14 : decode cX1_formOf 14 = .ok (.goto 4, 3) := by decide +kernel
theorem dX1_formOf_17 : decode cX1_formOf 17 = .ok (.iconst (-1), 1) := by decide +kernel
theorem dX1_formOf_18 : decode cX1_formOf 18 = .ok (.ireturn, 1) := by decide +kernel
set_option maxRecDepth 20000 in
theorem ggX1_isA_X1_has : GoodIn wsX1_isA wsX1_has := goodIn_r _ [6, 7, 11, 12, 13, 14, 15] (by decide +kernel) (by decide +kernel)
set_option maxRecDepth 20000 in
theorem gX1_isA_X1_has : GoodIn wsX1_isA (wsV RX1 29 RX1 yX1_has wsX1_has) := goodIn_app (goodIn_of _ (by decide +kernel)) ggX1_isA_X1_has
set_option maxRecDepth 20000 in
theorem ggX1_isA_X2_viewsOfForm : GoodIn wsX1_isA wsX2_viewsOfForm := goodIn_r _ [10] (by decide +kernel) (by decide +kernel)
set_option maxRecDepth 20000 in
theorem gX1_isA_X2_viewsOfForm_n33 : GoodIn wsX1_isA (wsX2_viewsOfForm) := ggX1_isA_X2_viewsOfForm
theorem dX1_isA_0 : decode cX1_isA 0 = .ok (.aload_n 0, 1) := by decide +kernel
theorem dX1_isA_1 : decode cX1_isA 1 = .ok (.iload_n 1, 1) := by decide +kernel
theorem dX1_isA_2 : decode cX1_isA 2 = .ok (.invokevirtual 29, 3) := by decide +kernel
theorem dX1_isA_5 : decode cX1_isA 5 = .ok (.ifCond .eq 24, 3) := by decide +kernel
theorem dX1_isA_8 : decode cX1_isA 8 = .ok (.aload_n 0, 1) := by decide +kernel
theorem dX1_isA_9 : decode cX1_isA 9 = .ok (.getfield 9, 3) := by decide +kernel
theorem dX1_isA_12 : decode cX1_isA 12 = .ok (.iload_n 1, 1) := by decide +kernel
theorem dX1_isA_13 : decode cX1_isA 13 = .ok (.iaload, 1) := by decide +kernel
theorem dX1_isA_14 : decode cX1_isA 14 = .ok (.invokestatic 33, 3) := by decide +kernel
theorem dX1_isA_17 : decode cX1_isA 17 = .ok (.iload_n 2, 1) := by decide +kernel
theorem dX1_isA_18 : decode cX1_isA 18 = .ok (.ishr, 1) := by decide +kernel
theorem dX1_isA_19 : decode cX1_isA 19 = .ok (.iconst 1, 1) := by decide +kernel
theorem dX1_isA_20 : decode cX1_isA 20 = .ok (.iand, 1) := by decide +kernel
theorem dX1_isA_21 : decode cX1_isA 21 = .ok (.iconst 1, 1) := by decide +kernel
theorem dX1_isA_22 : decode cX1_isA 22 = .ok (.if_icmp .ne 7, 3) := by decide +kernel
theorem dX1_isA_25 : decode cX1_isA 25 = .ok (.iconst 1, 1) := by decide +kernel
theorem dX1_isA_26 : decode cX1_isA 26 = .ok (.goto 4, 3) := by decide +kernel
theorem dX1_isA_29 : decode cX1_isA 29 = .ok (.iconst 0, 1) := by decide +kernel
theorem dX1_isA_30 : decode cX1_isA 30 = .ok (.ireturn, 1) := by decide +kernel
set_option maxRecDepth 20000 in
theorem ggX1_isNumbers_X1_has : GoodIn wsX1_isNumbers wsX1_has := goodIn_r _ [6, 7, 8, 9, 10, 11, 12] (by decide +kernel) (by decide +kernel)
set_option maxRecDepth 20000 in
theorem gX1_isNumbers_X1_has : GoodIn wsX1_isNumbers (wsV RX1 29 RX1 yX1_has wsX1_has) := goodIn_app (goodIn_of _ (by decide +kernel)) ggX1_isNumbers_X1_has
theorem dX1_isNumbers_0 : decode cX1_isNumbers 0 = .ok (.aload_n 0, 1) := by decide +kernel
theorem dX1_isNumbers_1 : decode cX1_isNumbers 1 = .ok (.iload_n 1, 1) := by decide +kernel
theorem dX1_isNumbers_2 : decode cX1_isNumbers 2 = .ok (.invokevirtual 29, 3) := by decide +kernel
theorem dX1_isNumbers_5 : decode cX1_isNumbers 5 = .ok (.ifCond .eq 17, 3) := by decide +kernel
theorem dX1_isNumbers_8 : decode cX1_isNumbers 8 = .ok (.aload_n 0, 1) := by decide +kernel
theorem dX1_isNumbers_9 : decode cX1_isNumbers 9 = .ok (.getfield 9, 3) := by decide +kernel
theorem dX1_isNumbers_12 : decode cX1_isNumbers 12 = .ok (.iload_n 1, 1) := by decide +kernel
theorem dX1_isNumbers_13 : decode cX1_isNumbers 13 = .ok (.iaload, 1) := by decide +kernel
theorem dX1_isNumbers_14 : decode cX1_isNumbers 14 = .ok (.iconst 2, 1) := by decide +kernel
theorem dX1_isNumbers_15 : decode cX1_isNumbers 15 = .ok (.if_icmp .gt 7, 3) := by decide +kernel
theorem dX1_isNumbers_18 : decode cX1_isNumbers 18 = .ok (.iconst 1, 1) := by decide +kernel
theorem dX1_isNumbers_19 : decode cX1_isNumbers 19 = .ok (.goto 4, 3) := by decide +kernel
theorem dX1_isNumbers_22 : decode cX1_isNumbers 22 = .ok (.iconst 0, 1) := by decide +kernel
theorem dX1_isNumbers_23 : decode cX1_isNumbers 23 = .ok (.ireturn, 1) := by decide +kernel
set_option maxRecDepth 20000 in
theorem ggX1_lengthOf_X1_has : GoodIn wsX1_lengthOf wsX1_has := goodIn_r _ [6, 7, 8, 9, 10, 11, 12] (by decide +kernel) (by decide +kernel)
set_option maxRecDepth 20000 in
theorem gX1_lengthOf_X1_has : GoodIn wsX1_lengthOf (wsV RX1 29 RX1 yX1_has wsX1_has) := goodIn_app (goodIn_of _ (by decide +kernel)) ggX1_lengthOf_X1_has
theorem dX1_lengthOf_0 : decode cX1_lengthOf 0 = .ok (.aload_n 0, 1) := by decide +kernel
theorem dX1_lengthOf_1 : decode cX1_lengthOf 1 = .ok (.iload_n 1, 1) := by decide +kernel
theorem dX1_lengthOf_2 : decode cX1_lengthOf 2 = .ok (.invokevirtual 29, 3) := by decide +kernel
theorem dX1_lengthOf_5 : decode cX1_lengthOf 5 = .ok (.ifCond .eq 12, 3) := by decide +kernel
theorem dX1_lengthOf_8 : decode cX1_lengthOf 8 = .ok (.aload_n 0, 1) := by decide +kernel
theorem dX1_lengthOf_9 : decode cX1_lengthOf 9 = .ok (.getfield 15, 3) := by decide +kernel
theorem dX1_lengthOf_12 : decode cX1_lengthOf 12 = .ok (.iload_n 1, 1) := by decide +kernel
theorem dX1_lengthOf_13 : decode cX1_lengthOf 13 = .ok (.iaload, 1) := by decide +kernel
theorem dX1_lengthOf_14 : decode cX1_lengthOf 14 = .ok (.goto 4, 3) := by decide +kernel
theorem dX1_lengthOf_17 : decode cX1_lengthOf 17 = .ok (.iconst 0, 1) := by decide +kernel
theorem dX1_lengthOf_18 : decode cX1_lengthOf 18 = .ok (.ireturn, 1) := by decide +kernel
set_option maxRecDepth 20000 in
theorem ggX1_levelOf_X1_has : GoodIn wsX1_levelOf wsX1_has := goodIn_r _ [6, 7, 8, 9, 10, 11, 12] (by decide +kernel) (by decide +kernel)
set_option maxRecDepth 20000 in
theorem gX1_levelOf_X1_has : GoodIn wsX1_levelOf (wsV RX1 29 RX1 yX1_has wsX1_has) := goodIn_app (goodIn_of _ (by decide +kernel)) ggX1_levelOf_X1_has
theorem dX1_levelOf_0 : decode cX1_levelOf 0 = .ok (.aload_n 0, 1) := by decide +kernel
theorem dX1_levelOf_1 : decode cX1_levelOf 1 = .ok (.iload_n 1, 1) := by decide +kernel
theorem dX1_levelOf_2 : decode cX1_levelOf 2 = .ok (.invokevirtual 29, 3) := by decide +kernel
theorem dX1_levelOf_5 : decode cX1_levelOf 5 = .ok (.ifCond .eq 12, 3) := by decide +kernel
theorem dX1_levelOf_8 : decode cX1_levelOf 8 = .ok (.aload_n 0, 1) := by decide +kernel
theorem dX1_levelOf_9 : decode cX1_levelOf 9 = .ok (.getfield 18, 3) := by decide +kernel
theorem dX1_levelOf_12 : decode cX1_levelOf 12 = .ok (.iload_n 1, 1) := by decide +kernel
theorem dX1_levelOf_13 : decode cX1_levelOf 13 = .ok (.iaload, 1) := by decide +kernel
theorem dX1_levelOf_14 : decode cX1_levelOf 14 = .ok (.goto 4, 3) := by decide +kernel
theorem dX1_levelOf_17 : decode cX1_levelOf 17 = .ok (.iconst 0, 1) := by decide +kernel
theorem dX1_levelOf_18 : decode cX1_levelOf 18 = .ok (.ireturn, 1) := by decide +kernel
set_option maxRecDepth 20000 in
theorem ggX1_cellOf_X1_hasPlace : GoodIn wsX1_cellOf wsX1_hasPlace := goodIn_r _ [6, 7, 8, 9, 10, 11, 12, 13] (by decide +kernel) (by decide +kernel)
set_option maxRecDepth 20000 in
theorem gX1_cellOf_X1_hasPlace : GoodIn wsX1_cellOf (wsV RX1 37 RX1 yX1_hasPlace wsX1_hasPlace) := goodIn_app (goodIn_of _ (by decide +kernel)) ggX1_cellOf_X1_hasPlace
theorem dX1_cellOf_0 : decode cX1_cellOf 0 = .ok (.aload_n 0, 1) := by decide +kernel
theorem dX1_cellOf_1 : decode cX1_cellOf 1 = .ok (.iload_n 1, 1) := by decide +kernel
theorem dX1_cellOf_2 : decode cX1_cellOf 2 = .ok (.iload_n 2, 1) := by decide +kernel
theorem dX1_cellOf_3 : decode cX1_cellOf 3 = .ok (.invokevirtual 37, 3) := by decide +kernel
theorem dX1_cellOf_6 : decode cX1_cellOf 6 = .ok (.ifCond .eq 17, 3) := by decide +kernel
theorem dX1_cellOf_9 : decode cX1_cellOf 9 = .ok (.aload_n 0, 1) := by decide +kernel
theorem dX1_cellOf_10 : decode cX1_cellOf 10 = .ok (.getfield 21, 3) := by decide +kernel
theorem dX1_cellOf_13 : decode cX1_cellOf 13 = .ok (.iload_n 1, 1) := by decide +kernel
theorem dX1_cellOf_14 : decode cX1_cellOf 14 = .ok (.bipush 8, 2) := by decide +kernel
theorem dX1_cellOf_16 : decode cX1_cellOf 16 = .ok (.imul, 1) := by decide +kernel
theorem dX1_cellOf_17 : decode cX1_cellOf 17 = .ok (.iload_n 2, 1) := by decide +kernel
theorem dX1_cellOf_18 : decode cX1_cellOf 18 = .ok (.iadd, 1) := by decide +kernel
theorem dX1_cellOf_19 : decode cX1_cellOf 19 = .ok (.laload, 1) := by decide +kernel
theorem dX1_cellOf_20 : decode cX1_cellOf 20 = .ok (.goto 4, 3) := by decide +kernel
theorem dX1_cellOf_23 : decode cX1_cellOf 23 = .ok (.lconst 0, 1) := by decide +kernel
theorem dX1_cellOf_24 : decode cX1_cellOf 24 = .ok (.lreturn, 1) := by decide +kernel
set_option maxRecDepth 20000 in
theorem ggX1_placed_X1_hasPlace : GoodIn wsX1_placed wsX1_hasPlace := goodIn_r _ [6, 7, 8, 9, 10, 11, 12, 13] (by decide +kernel) (by decide +kernel)
set_option maxRecDepth 20000 in
theorem gX1_placed_X1_hasPlace : GoodIn wsX1_placed (wsV RX1 37 RX1 yX1_hasPlace wsX1_hasPlace) := goodIn_app (goodIn_of _ (by decide +kernel)) ggX1_placed_X1_hasPlace
theorem dX1_placed_0 : decode cX1_placed 0 = .ok (.aload_n 0, 1) := by decide +kernel
theorem dX1_placed_1 : decode cX1_placed 1 = .ok (.iload_n 1, 1) := by decide +kernel
theorem dX1_placed_2 : decode cX1_placed 2 = .ok (.iload_n 2, 1) := by decide +kernel
theorem dX1_placed_3 : decode cX1_placed 3 = .ok (.invokevirtual 37, 3) := by decide +kernel
theorem dX1_placed_6 : decode cX1_placed 6 = .ok (.ifCond .eq 18, 3) := by decide +kernel
theorem dX1_placed_9 : decode cX1_placed 9 = .ok (.aload_n 0, 1) := by decide +kernel
theorem dX1_placed_10 : decode cX1_placed 10 = .ok (.getfield 21, 3) := by decide +kernel
theorem dX1_placed_13 : decode cX1_placed 13 = .ok (.iload_n 1, 1) := by decide +kernel
theorem dX1_placed_14 : decode cX1_placed 14 = .ok (.bipush 8, 2) := by decide +kernel
theorem dX1_placed_16 : decode cX1_placed 16 = .ok (.imul, 1) := by decide +kernel
theorem dX1_placed_17 : decode cX1_placed 17 = .ok (.iload_n 2, 1) := by decide +kernel
theorem dX1_placed_18 : decode cX1_placed 18 = .ok (.iadd, 1) := by decide +kernel
theorem dX1_placed_19 : decode cX1_placed 19 = .ok (.laload, 1) := by decide +kernel
theorem dX1_placed_20 : decode cX1_placed 20 = .ok (.l2i, 1) := by decide +kernel
theorem dX1_placed_21 : decode cX1_placed 21 = .ok (.goto 4, 3) := by decide +kernel
theorem dX1_placed_24 : decode cX1_placed 24 = .ok (.iconst (-1), 1) := by decide +kernel
theorem dX1_placed_25 : decode cX1_placed 25 = .ok (.ireturn, 1) := by decide +kernel
set_option maxRecDepth 20000 in
theorem ggX1_put_X1_hasPlace : GoodIn wsX1_put wsX1_hasPlace := goodIn_r _ [7, 8, 9, 13, 14, 15, 16, 17] (by decide +kernel) (by decide +kernel)
set_option maxRecDepth 20000 in
theorem gX1_put_X1_hasPlace : GoodIn wsX1_put (wsV RX1 37 RX1 yX1_hasPlace wsX1_hasPlace) := goodIn_app (goodIn_of _ (by decide +kernel)) ggX1_put_X1_hasPlace
set_option maxRecDepth 20000 in
theorem ggX1_put_X1_lowestBits : GoodIn wsX1_put wsX1_lowestBits := goodIn_r _ [12] (by decide +kernel) (by decide +kernel)
set_option maxRecDepth 20000 in
theorem gX1_put_X1_lowestBits : GoodIn wsX1_put (va_wsS RX1 41 yX1_lowestBits wsX1_lowestBits) := goodIn_app (goodIn_of _ (by decide +kernel)) ggX1_put_X1_lowestBits
theorem dX1_put_0 : decode cX1_put 0 = .ok (.aload_n 0, 1) := by decide +kernel
theorem dX1_put_1 : decode cX1_put 1 = .ok (.iload_n 1, 1) := by decide +kernel
theorem dX1_put_2 : decode cX1_put 2 = .ok (.iload_n 2, 1) := by decide +kernel
theorem dX1_put_3 : decode cX1_put 3 = .ok (.invokevirtual 37, 3) := by decide +kernel
theorem dX1_put_6 : decode cX1_put 6 = .ok (.ifCond .eq 24, 3) := by decide +kernel
theorem dX1_put_9 : decode cX1_put 9 = .ok (.aload_n 0, 1) := by decide +kernel
theorem dX1_put_10 : decode cX1_put 10 = .ok (.getfield 21, 3) := by decide +kernel
theorem dX1_put_13 : decode cX1_put 13 = .ok (.iload_n 1, 1) := by decide +kernel
theorem dX1_put_14 : decode cX1_put 14 = .ok (.bipush 8, 2) := by decide +kernel
theorem dX1_put_16 : decode cX1_put 16 = .ok (.imul, 1) := by decide +kernel
theorem dX1_put_17 : decode cX1_put 17 = .ok (.iload_n 2, 1) := by decide +kernel
theorem dX1_put_18 : decode cX1_put 18 = .ok (.iadd, 1) := by decide +kernel
theorem dX1_put_19 : decode cX1_put 19 = .ok (.aload_n 0, 1) := by decide +kernel
theorem dX1_put_20 : decode cX1_put 20 = .ok (.getfield 9, 3) := by decide +kernel
theorem dX1_put_23 : decode cX1_put 23 = .ok (.iload_n 1, 1) := by decide +kernel
theorem dX1_put_24 : decode cX1_put 24 = .ok (.iaload, 1) := by decide +kernel
theorem dX1_put_25 : decode cX1_put 25 = .ok (.lload_n 3, 1) := by decide +kernel
theorem dX1_put_26 : decode cX1_put 26 = .ok (.invokestatic 41, 3) := by decide +kernel
theorem dX1_put_29 : decode cX1_put 29 = .ok (.lastore, 1) := by decide +kernel
theorem dX1_put_30 : decode cX1_put 30 = .ok (.return_, 1) := by decide +kernel
theorem dX1_lowestBits_0 : decode cX1_lowestBits 0 = .ok (.iload_n 0, 1) := by decide +kernel
theorem dX1_lowestBits_1 : decode cX1_lowestBits 1 = .ok (.lookupswitch 36 #[(0, 27), (1, 32)], 27) := by decide +kernel
theorem dX1_lowestBits_28 : decode cX1_lowestBits 28 = .ok (.lload_n 1, 1) := by decide +kernel
theorem dX1_lowestBits_29 : decode cX1_lowestBits 29 = .ok (.l2i, 1) := by decide +kernel
theorem dX1_lowestBits_30 : decode cX1_lowestBits 30 = .ok (.i2b, 1) := by decide +kernel
theorem dX1_lowestBits_31 : decode cX1_lowestBits 31 = .ok (.i2l, 1) := by decide +kernel
theorem dX1_lowestBits_32 : decode cX1_lowestBits 32 = .ok (.lreturn, 1) := by decide +kernel
theorem dX1_lowestBits_33 : decode cX1_lowestBits 33 = .ok (.lload_n 1, 1) := by decide +kernel
theorem dX1_lowestBits_34 : decode cX1_lowestBits 34 = .ok (.l2i, 1) := by decide +kernel
theorem dX1_lowestBits_35 : decode cX1_lowestBits 35 = .ok (.i2l, 1) := by decide +kernel
theorem dX1_lowestBits_36 : decode cX1_lowestBits 36 = .ok (.lreturn, 1) := by decide +kernel
theorem dX1_lowestBits_37 : decode cX1_lowestBits 37 = .ok (.lload_n 1, 1) := by decide +kernel
theorem dX1_lowestBits_38 : decode cX1_lowestBits 38 = .ok (.lreturn, 1) := by decide +kernel
set_option maxRecDepth 20000 in
theorem ggX1_add_X2_isLength : GoodIn wsX1_add wsX2_isLength := goodIn_r _ [8] (by decide +kernel) (by decide +kernel)
set_option maxRecDepth 20000 in
theorem gX1_add_X2_isLength_n45 : GoodIn wsX1_add (wsX2_isLength) := ggX1_add_X2_isLength
set_option maxRecDepth 20000 in
theorem ggX1_add_X2_isBoardForm : GoodIn wsX1_add wsX2_isBoardForm := goodIn_r _ [10] (by decide +kernel) (by decide +kernel)
set_option maxRecDepth 20000 in
theorem gX1_add_X2_isBoardForm_n48 : GoodIn wsX1_add (wsX2_isBoardForm) := ggX1_add_X2_isBoardForm
theorem dX1_add_0 : decode cX1_add 0 = .ok (.aload_n 0, 1) := by decide +kernel
theorem dX1_add_1 : decode cX1_add 1 = .ok (.getfield 25, 3) := by decide +kernel
theorem dX1_add_4 : decode cX1_add 4 = .ok (.bipush 60, 2) := by decide +kernel
theorem dX1_add_6 : decode cX1_add 6 = .ok (.if_icmp .ge 10, 3) := by decide +kernel
theorem dX1_add_9 : decode cX1_add 9 = .ok (.iload_n 2, 1) := by decide +kernel
theorem dX1_add_10 : decode cX1_add 10 = .ok (.invokestatic 45, 3) := by decide +kernel
theorem dX1_add_13 : decode cX1_add 13 = .ok (.ifCond .ne 6, 3) := by decide +kernel
theorem dX1_add_16 : decode cX1_add 16 = .ok (.bipush (-4), 2) := by decide +kernel
theorem dX1_add_18 : decode cX1_add 18 = .ok (.ireturn, 1) := by decide +kernel
theorem dX1_add_19 : decode cX1_add 19 = .ok (.aload_n 0, 1) := by decide +kernel
theorem dX1_add_20 : decode cX1_add 20 = .ok (.getfield 25, 3) := by decide +kernel
theorem dX1_add_23 : decode cX1_add 23 = .ok (.istore_n 3, 1) := by decide +kernel
theorem dX1_add_24 : decode cX1_add 24 = .ok (.aload_n 0, 1) := by decide +kernel
theorem dX1_add_25 : decode cX1_add 25 = .ok (.dup, 1) := by decide +kernel
theorem dX1_add_26 : decode cX1_add 26 = .ok (.getfield 25, 3) := by decide +kernel
theorem dX1_add_29 : decode cX1_add 29 = .ok (.iconst 1, 1) := by decide +kernel
theorem dX1_add_30 : decode cX1_add 30 = .ok (.iadd, 1) := by decide +kernel
theorem dX1_add_31 : decode cX1_add 31 = .ok (.putfield 25, 3) := by decide +kernel
theorem dX1_add_34 : decode cX1_add 34 = .ok (.aload_n 0, 1) := by decide +kernel
theorem dX1_add_35 : decode cX1_add 35 = .ok (.getfield 9, 3) := by decide +kernel
theorem dX1_add_38 : decode cX1_add 38 = .ok (.iload_n 3, 1) := by decide +kernel
theorem dX1_add_39 : decode cX1_add 39 = .ok (.iload_n 1, 1) := by decide +kernel
theorem dX1_add_40 : decode cX1_add 40 = .ok (.iastore, 1) := by decide +kernel
theorem dX1_add_41 : decode cX1_add 41 = .ok (.aload_n 0, 1) := by decide +kernel
theorem dX1_add_42 : decode cX1_add 42 = .ok (.getfield 15, 3) := by decide +kernel
theorem dX1_add_45 : decode cX1_add 45 = .ok (.iload_n 3, 1) := by decide +kernel
theorem dX1_add_46 : decode cX1_add 46 = .ok (.iload_n 2, 1) := by decide +kernel
theorem dX1_add_47 : decode cX1_add 47 = .ok (.iastore, 1) := by decide +kernel
theorem dX1_add_48 : decode cX1_add 48 = .ok (.aload_n 0, 1) := by decide +kernel
theorem dX1_add_49 : decode cX1_add 49 = .ok (.getfield 18, 3) := by decide +kernel
theorem dX1_add_52 : decode cX1_add 52 = .ok (.iload_n 3, 1) := by decide +kernel
theorem dX1_add_53 : decode cX1_add 53 = .ok (.iconst 0, 1) := by decide +kernel
theorem dX1_add_54 : decode cX1_add 54 = .ok (.iastore, 1) := by decide +kernel
theorem dX1_add_55 : decode cX1_add 55 = .ok (.iload_n 1, 1) := by decide +kernel
theorem dX1_add_56 : decode cX1_add 56 = .ok (.invokestatic 48, 3) := by decide +kernel
theorem dX1_add_59 : decode cX1_add 59 = .ok (.ifCond .eq 7, 3) := by decide +kernel
theorem dX1_add_62 : decode cX1_add 62 = .ok (.iconst (-1), 1) := by decide +kernel
theorem dX1_add_63 : decode cX1_add 63 = .ok (.goto 4, 3) := by decide +kernel
theorem dX1_add_66 : decode cX1_add 66 = .ok (.iconst 0, 1) := by decide +kernel
theorem dX1_add_67 : decode cX1_add 67 = .ok (.istore 4, 2) := by decide +kernel
theorem dX1_add_69 : decode cX1_add 69 = .ok (.iconst 0, 1) := by decide +kernel
theorem dX1_add_70 : decode cX1_add 70 = .ok (.istore 5, 2) := by decide +kernel
theorem dX1_add_72 : decode cX1_add 72 = .ok (.iload 5, 2) := by decide +kernel
theorem dX1_add_74 : decode cX1_add 74 = .ok (.iload_n 2, 1) := by decide +kernel
theorem dX1_add_75 : decode cX1_add 75 = .ok (.if_icmp .ge 24, 3) := by decide +kernel
theorem dX1_add_78 : decode cX1_add 78 = .ok (.aload_n 0, 1) := by decide +kernel
theorem dX1_add_79 : decode cX1_add 79 = .ok (.getfield 21, 3) := by decide +kernel
theorem dX1_add_82 : decode cX1_add 82 = .ok (.iload_n 3, 1) := by decide +kernel
theorem dX1_add_83 : decode cX1_add 83 = .ok (.bipush 8, 2) := by decide +kernel
theorem dX1_add_85 : decode cX1_add 85 = .ok (.imul, 1) := by decide +kernel
theorem dX1_add_86 : decode cX1_add 86 = .ok (.iload 5, 2) := by decide +kernel
theorem dX1_add_88 : decode cX1_add 88 = .ok (.iadd, 1) := by decide +kernel
theorem dX1_add_89 : decode cX1_add 89 = .ok (.iload 4, 2) := by decide +kernel
theorem dX1_add_91 : decode cX1_add 91 = .ok (.i2l, 1) := by decide +kernel
theorem dX1_add_92 : decode cX1_add 92 = .ok (.lastore, 1) := by decide +kernel
theorem dX1_add_93 : decode cX1_add 93 = .ok (.iinc 5 1, 3) := by decide +kernel
theorem dX1_add_96 : decode cX1_add 96 = .ok (.goto (-24), 3) := by decide +kernel
theorem dX1_add_99 : decode cX1_add 99 = .ok (.iload_n 3, 1) := by decide +kernel
theorem dX1_add_100 : decode cX1_add 100 = .ok (.ireturn, 1) := by decide +kernel
set_option maxRecDepth 20000 in
theorem ggX1_addWire_X1_add : GoodIn wsX1_addWire wsX1_add := goodIn_r _ [6, 7, 8, 9, 1, 10, 11, 12, 13, 14, 15, 20, 21, 22, 23, 24] (by decide +kernel) (by decide +kernel)
set_option maxRecDepth 20000 in
theorem gX1_addWire_X1_add : GoodIn wsX1_addWire (wsV RX1 51 RX1 yX1_add wsX1_add) := goodIn_app (goodIn_of _ (by decide +kernel)) ggX1_addWire_X1_add
set_option maxRecDepth 20000 in
theorem ggX1_addWire_X1_has : GoodIn wsX1_addWire wsX1_has := goodIn_r _ [19, 7, 20, 21, 22, 23, 24] (by decide +kernel) (by decide +kernel)
set_option maxRecDepth 20000 in
theorem gX1_addWire_X1_has : GoodIn wsX1_addWire (wsV RX1 29 RX1 yX1_has wsX1_has) := goodIn_app (goodIn_of _ (by decide +kernel)) ggX1_addWire_X1_has
theorem dX1_addWire_0 : decode cX1_addWire 0 = .ok (.aload_n 0, 1) := by decide +kernel
theorem dX1_addWire_1 : decode cX1_addWire 1 = .ok (.iload_n 1, 1) := by decide +kernel
theorem dX1_addWire_2 : decode cX1_addWire 2 = .ok (.iconst 0, 1) := by decide +kernel
theorem dX1_addWire_3 : decode cX1_addWire 3 = .ok (.invokevirtual 51, 3) := by decide +kernel
theorem dX1_addWire_6 : decode cX1_addWire 6 = .ok (.istore_n 3, 1) := by decide +kernel
theorem dX1_addWire_7 : decode cX1_addWire 7 = .ok (.aload_n 0, 1) := by decide +kernel
theorem dX1_addWire_8 : decode cX1_addWire 8 = .ok (.iload_n 3, 1) := by decide +kernel
theorem dX1_addWire_9 : decode cX1_addWire 9 = .ok (.invokevirtual 29, 3) := by decide +kernel
theorem dX1_addWire_12 : decode cX1_addWire 12 = .ok (.ifCond .eq 10, 3) := by decide +kernel
theorem dX1_addWire_15 : decode cX1_addWire 15 = .ok (.aload_n 0, 1) := by decide +kernel
theorem dX1_addWire_16 : decode cX1_addWire 16 = .ok (.getfield 18, 3) := by decide +kernel
theorem dX1_addWire_19 : decode cX1_addWire 19 = .ok (.iload_n 3, 1) := by decide +kernel
theorem dX1_addWire_20 : decode cX1_addWire 20 = .ok (.iload_n 2, 1) := by decide +kernel
theorem dX1_addWire_21 : decode cX1_addWire 21 = .ok (.iastore, 1) := by decide +kernel
theorem dX1_addWire_22 : decode cX1_addWire 22 = .ok (.iload_n 3, 1) := by decide +kernel
theorem dX1_addWire_23 : decode cX1_addWire 23 = .ok (.ireturn, 1) := by decide +kernel
set_option maxRecDepth 20000 in
theorem ggX1_addSingle_X1_add : GoodIn wsX1_addSingle wsX1_add := goodIn_r _ [5, 6, 7, 8, 9, 10, 11, 12, 13, 14, 15, 27, 28, 29, 30, 31] (by decide +kernel) (by decide +kernel)
set_option maxRecDepth 20000 in
theorem gX1_addSingle_X1_add : GoodIn wsX1_addSingle (wsV RX1 51 RX1 yX1_add wsX1_add) := goodIn_app (goodIn_of _ (by decide +kernel)) ggX1_addSingle_X1_add
set_option maxRecDepth 20000 in
theorem ggX1_addSingle_X1_put : GoodIn wsX1_addSingle wsX1_put := goodIn_r _ [19, 10, 7, 20, 21, 22, 4, 23, 6, 8, 24, 25, 26, 27, 28, 29, 30, 31] (by decide +kernel) (by decide +kernel)
set_option maxRecDepth 20000 in
theorem gX1_addSingle_X1_put : GoodIn wsX1_addSingle (wsV RX1 55 RX1 yX1_put wsX1_put) := goodIn_app (goodIn_of _ (by decide +kernel)) ggX1_addSingle_X1_put
theorem dX1_addSingle_0 : decode cX1_addSingle 0 = .ok (.aload_n 0, 1) := by decide +kernel
theorem dX1_addSingle_1 : decode cX1_addSingle 1 = .ok (.iload_n 1, 1) := by decide +kernel
theorem dX1_addSingle_2 : decode cX1_addSingle 2 = .ok (.iconst 1, 1) := by decide +kernel
theorem dX1_addSingle_3 : decode cX1_addSingle 3 = .ok (.invokevirtual 51, 3) := by decide +kernel
theorem dX1_addSingle_6 : decode cX1_addSingle 6 = .ok (.istore 4, 2) := by decide +kernel
theorem dX1_addSingle_8 : decode cX1_addSingle 8 = .ok (.aload_n 0, 1) := by decide +kernel
theorem dX1_addSingle_9 : decode cX1_addSingle 9 = .ok (.iload 4, 2) := by decide +kernel
theorem dX1_addSingle_11 : decode cX1_addSingle 11 = .ok (.iconst 0, 1) := by decide +kernel
theorem dX1_addSingle_12 : decode cX1_addSingle 12 = .ok (.lload_n 2, 1) := by decide +kernel
theorem dX1_addSingle_13 : decode cX1_addSingle 13 = .ok (.invokevirtual 55, 3) := by decide +kernel
theorem dX1_addSingle_16 : decode cX1_addSingle 16 = .ok (.iload 4, 2) := by decide +kernel
theorem dX1_addSingle_18 : decode cX1_addSingle 18 = .ok (.ireturn, 1) := by decide +kernel
set_option maxRecDepth 20000 in
theorem ggX1_addCopy_X1_lengthOf : GoodIn wsX1_addCopy wsX1_lengthOf := goodIn_r _ [5, 6, 7, 8, 9, 4, 10, 11, 43, 44, 45, 46, 47] (by decide +kernel) (by decide +kernel)
set_option maxRecDepth 20000 in
theorem gX1_addCopy_X1_lengthOf : GoodIn wsX1_addCopy (wsV RX1 59 RX1 yX1_lengthOf wsX1_lengthOf) := goodIn_app (goodIn_of _ (by decide +kernel)) ggX1_addCopy_X1_lengthOf
set_option maxRecDepth 20000 in
theorem ggX1_addCopy_X1_add : GoodIn wsX1_addCopy wsX1_add := goodIn_r _ [15, 11, 16, 6, 17, 18, 19, 20, 21, 22, 23, 43, 44, 45, 46, 47] (by decide +kernel) (by decide +kernel)
set_option maxRecDepth 20000 in
theorem gX1_addCopy_X1_add : GoodIn wsX1_addCopy (wsV RX1 51 RX1 yX1_add wsX1_add) := goodIn_app (goodIn_of _ (by decide +kernel)) ggX1_addCopy_X1_add
set_option maxRecDepth 20000 in
theorem ggX1_addCopy_X1_copyCells : GoodIn wsX1_addCopy wsX1_copyCells := goodIn_r _ [27, 1, 2, 3, 4, 5, 6, 7, 8, 9, 10, 11, 28, 29, 30, 31, 18, 32, 33, 34, 35, 36, 37, 38, 39, 16, 40, 41, 42, 43, 44, 45, 46, 47] (by decide +kernel) (by decide +kernel)
set_option maxRecDepth 20000 in
theorem gX1_addCopy_X1_copyCells : GoodIn wsX1_addCopy (wsV RX1 62 RX1 yX1_copyCells wsX1_copyCells) := goodIn_app (goodIn_of _ (by decide +kernel)) ggX1_addCopy_X1_copyCells
theorem dX1_addCopy_0 : decode cX1_addCopy 0 = .ok (.aload_n 0, 1) := by decide +kernel
theorem dX1_addCopy_1 : decode cX1_addCopy 1 = .ok (.iload_n 2, 1) := by decide +kernel
theorem dX1_addCopy_2 : decode cX1_addCopy 2 = .ok (.aload_n 0, 1) := by decide +kernel
theorem dX1_addCopy_3 : decode cX1_addCopy 3 = .ok (.iload_n 1, 1) := by decide +kernel
theorem dX1_addCopy_4 : decode cX1_addCopy 4 = .ok (.invokevirtual 59, 3) := by decide +kernel
theorem dX1_addCopy_7 : decode cX1_addCopy 7 = .ok (.invokevirtual 51, 3) := by decide +kernel
theorem dX1_addCopy_10 : decode cX1_addCopy 10 = .ok (.istore_n 3, 1) := by decide +kernel
theorem dX1_addCopy_11 : decode cX1_addCopy 11 = .ok (.aload_n 0, 1) := by decide +kernel
theorem dX1_addCopy_12 : decode cX1_addCopy 12 = .ok (.iload_n 1, 1) := by decide +kernel
theorem dX1_addCopy_13 : decode cX1_addCopy 13 = .ok (.iload_n 3, 1) := by decide +kernel
theorem dX1_addCopy_14 : decode cX1_addCopy 14 = .ok (.iconst 0, 1) := by decide +kernel
theorem dX1_addCopy_15 : decode cX1_addCopy 15 = .ok (.invokevirtual 62, 3) := by decide +kernel
theorem dX1_addCopy_18 : decode cX1_addCopy 18 = .ok (.iload_n 3, 1) := by decide +kernel
theorem dX1_addCopy_19 : decode cX1_addCopy 19 = .ok (.ireturn, 1) := by decide +kernel
set_option maxRecDepth 20000 in
theorem ggX1_copyCells_X1_lengthOf : GoodIn wsX1_copyCells wsX1_lengthOf := goodIn_r _ [5, 6, 7, 8, 9, 4, 10, 11, 29, 30, 31, 32, 33] (by decide +kernel) (by decide +kernel)
set_option maxRecDepth 20000 in
theorem gX1_copyCells_X1_lengthOf : GoodIn wsX1_copyCells (wsV RX1 59 RX1 yX1_lengthOf wsX1_lengthOf) := goodIn_app (goodIn_of _ (by decide +kernel)) ggX1_copyCells_X1_lengthOf
set_option maxRecDepth 20000 in
theorem ggX1_copyCells_X1_cellOf : GoodIn wsX1_copyCells wsX1_cellOf := goodIn_r _ [15, 16, 17, 18, 19, 4, 20, 11, 6, 29, 30, 31, 32, 33] (by decide +kernel) (by decide +kernel)
set_option maxRecDepth 20000 in
theorem gX1_copyCells_X1_cellOf : GoodIn wsX1_copyCells (wsV RX1 66 RX1 yX1_cellOf wsX1_cellOf) := goodIn_app (goodIn_of _ (by decide +kernel)) ggX1_copyCells_X1_cellOf
set_option maxRecDepth 20000 in
theorem ggX1_copyCells_X1_put : GoodIn wsX1_copyCells wsX1_put := goodIn_r _ [24, 16, 25, 17, 18, 19, 4, 20, 11, 6, 26, 27, 28, 29, 30, 31, 32, 33] (by decide +kernel) (by decide +kernel)
set_option maxRecDepth 20000 in
theorem gX1_copyCells_X1_put : GoodIn wsX1_copyCells (wsV RX1 55 RX1 yX1_put wsX1_put) := goodIn_app (goodIn_of _ (by decide +kernel)) ggX1_copyCells_X1_put
theorem dX1_copyCells_0 : decode cX1_copyCells 0 = .ok (.aload_n 0, 1) := by decide +kernel
theorem dX1_copyCells_1 : decode cX1_copyCells 1 = .ok (.iload_n 1, 1) := by decide +kernel
theorem dX1_copyCells_2 : decode cX1_copyCells 2 = .ok (.invokevirtual 59, 3) := by decide +kernel
theorem dX1_copyCells_5 : decode cX1_copyCells 5 = .ok (.istore 4, 2) := by decide +kernel
theorem dX1_copyCells_7 : decode cX1_copyCells 7 = .ok (.iconst 0, 1) := by decide +kernel
theorem dX1_copyCells_8 : decode cX1_copyCells 8 = .ok (.istore 5, 2) := by decide +kernel
theorem dX1_copyCells_10 : decode cX1_copyCells 10 = .ok (.iload 5, 2) := by decide +kernel
theorem dX1_copyCells_12 : decode cX1_copyCells 12 = .ok (.iload 4, 2) := by decide +kernel
theorem dX1_copyCells_14 : decode cX1_copyCells 14 = .ok (.if_icmp .ge 25, 3) := by decide +kernel
theorem dX1_copyCells_17 : decode cX1_copyCells 17 = .ok (.aload_n 0, 1) := by decide +kernel
theorem dX1_copyCells_18 : decode cX1_copyCells 18 = .ok (.iload_n 2, 1) := by decide +kernel
theorem dX1_copyCells_19 : decode cX1_copyCells 19 = .ok (.iload_n 3, 1) := by decide +kernel
theorem dX1_copyCells_20 : decode cX1_copyCells 20 = .ok (.iload 5, 2) := by decide +kernel
theorem dX1_copyCells_22 : decode cX1_copyCells 22 = .ok (.iadd, 1) := by decide +kernel
theorem dX1_copyCells_23 : decode cX1_copyCells 23 = .ok (.aload_n 0, 1) := by decide +kernel
theorem dX1_copyCells_24 : decode cX1_copyCells 24 = .ok (.iload_n 1, 1) := by decide +kernel
theorem dX1_copyCells_25 : decode cX1_copyCells 25 = .ok (.iload 5, 2) := by decide +kernel
theorem dX1_copyCells_27 : decode cX1_copyCells 27 = .ok (.invokevirtual 66, 3) := by decide +kernel
theorem dX1_copyCells_30 : decode cX1_copyCells 30 = .ok (.invokevirtual 55, 3) := by decide +kernel
theorem dX1_copyCells_33 : decode cX1_copyCells 33 = .ok (.iinc 5 1, 3) := by decide +kernel
theorem dX1_copyCells_36 : decode cX1_copyCells 36 = .ok (.goto (-26), 3) := by decide +kernel
theorem dX1_copyCells_39 : decode cX1_copyCells 39 = .ok (.return_, 1) := by decide +kernel
theorem dX1_forgetAll_0 : decode cX1_forgetAll 0 = .ok (.aload_n 0, 1) := by decide +kernel
theorem dX1_forgetAll_1 : decode cX1_forgetAll 1 = .ok (.getfield 25, 3) := by decide +kernel
theorem dX1_forgetAll_4 : decode cX1_forgetAll 4 = .ok (.istore_n 1, 1) := by decide +kernel
theorem dX1_forgetAll_5 : decode cX1_forgetAll 5 = .ok (.aload_n 0, 1) := by decide +kernel
theorem dX1_forgetAll_6 : decode cX1_forgetAll 6 = .ok (.iconst 0, 1) := by decide +kernel
theorem dX1_forgetAll_7 : decode cX1_forgetAll 7 = .ok (.putfield 25, 3) := by decide +kernel
theorem dX1_forgetAll_10 : decode cX1_forgetAll 10 = .ok (.iload_n 1, 1) := by decide +kernel
theorem dX1_forgetAll_11 : decode cX1_forgetAll 11 = .ok (.ireturn, 1) := by decide +kernel
set_option maxRecDepth 20000 in
theorem ggX2_init_X1_init : GoodIn wsX2_init wsX1_init := goodIn_r _ [16, 17, 2, 3, 18, 19, 20, 21, 22, 23, 24, 32, 33, 34, 35, 36] (by decide +kernel) (by decide +kernel)
set_option maxRecDepth 20000 in
theorem gX2_init_X1_init_n9 : GoodIn wsX2_init (wsX1_init) := ggX2_init_X1_init
set_option maxRecDepth 20000 in
theorem ggX2_init_X0_init : GoodIn wsX2_init wsX0_init := goodIn_r _ [26, 27, 2, 3, 18, 28, 29, 30, 31, 42, 43, 44, 45] (by decide +kernel) (by decide +kernel)
set_option maxRecDepth 20000 in
theorem gX2_init_X0_init_n18 : GoodIn wsX2_init (wsX0_init) := ggX2_init_X0_init
theorem dX2_init_0 : decode cX2_init 0 = .ok (.aload_n 0, 1) := by decide +kernel
theorem dX2_init_1 : decode cX2_init 1 = .ok (.invokespecial 1, 3) := by decide +kernel
theorem dX2_init_4 : decode cX2_init 4 = .ok (.aload_n 0, 1) := by decide +kernel
theorem dX2_init_5 : decode cX2_init 5 = .ok (.new 7, 3) := by decide +kernel
theorem dX2_init_8 : decode cX2_init 8 = .ok (.dup, 1) := by decide +kernel
theorem dX2_init_9 : decode cX2_init 9 = .ok (.invokespecial 9, 3) := by decide +kernel
theorem dX2_init_12 : decode cX2_init 12 = .ok (.putfield 10, 3) := by decide +kernel
theorem dX2_init_15 : decode cX2_init 15 = .ok (.aload_n 0, 1) := by decide +kernel
theorem dX2_init_16 : decode cX2_init 16 = .ok (.new 16, 3) := by decide +kernel
theorem dX2_init_19 : decode cX2_init 19 = .ok (.dup, 1) := by decide +kernel
theorem dX2_init_20 : decode cX2_init 20 = .ok (.invokespecial 18, 3) := by decide +kernel
theorem dX2_init_23 : decode cX2_init 23 = .ok (.putfield 19, 3) := by decide +kernel
theorem dX2_init_26 : decode cX2_init 26 = .ok (.aload_n 0, 1) := by decide +kernel
theorem dX2_init_27 : decode cX2_init 27 = .ok (.iconst (-1), 1) := by decide +kernel
theorem dX2_init_28 : decode cX2_init 28 = .ok (.putfield 23, 3) := by decide +kernel
theorem dX2_init_31 : decode cX2_init 31 = .ok (.aload_n 0, 1) := by decide +kernel
theorem dX2_init_32 : decode cX2_init 32 = .ok (.iconst 0, 1) := by decide +kernel
theorem dX2_init_33 : decode cX2_init 33 = .ok (.putfield 27, 3) := by decide +kernel
theorem dX2_init_36 : decode cX2_init 36 = .ok (.aload_n 0, 1) := by decide +kernel
theorem dX2_init_37 : decode cX2_init 37 = .ok (.iconst 0, 1) := by decide +kernel
theorem dX2_init_38 : decode cX2_init 38 = .ok (.putfield 30, 3) := by decide +kernel
theorem dX2_init_41 : decode cX2_init 41 = .ok (.return_, 1) := by decide +kernel
set_option maxRecDepth 20000 in
theorem ggX2_row_X2_isLength : GoodIn wsX2_row wsX2_isLength := goodIn_r _ [5] (by decide +kernel) (by decide +kernel)
set_option maxRecDepth 20000 in
theorem gX2_row_X2_isLength : GoodIn wsX2_row (va_wsS RX2 33 yX2_isLength wsX2_isLength) := goodIn_app (goodIn_of _ (by decide +kernel)) ggX2_row_X2_isLength
set_option maxRecDepth 20000 in
theorem ggX2_row_X1_add : GoodIn wsX2_row wsX1_add := goodIn_r _ [10, 11, 12, 13, 14, 15, 3, 4, 5, 16, 17, 23, 24, 25, 26, 27] (by decide +kernel) (by decide +kernel)
set_option maxRecDepth 20000 in
theorem gX2_row_X1_add : GoodIn wsX2_row (wsV RX2 37 RX1 yX1_add wsX1_add) := goodIn_app (goodIn_of _ (by decide +kernel)) ggX2_row_X1_add
theorem dX2_row_0 : decode cX2_row 0 = .ok (.iload_n 1, 1) := by decide +kernel
theorem dX2_row_1 : decode cX2_row 1 = .ok (.ifCond .lt 15, 3) := by decide +kernel
theorem dX2_row_4 : decode cX2_row 4 = .ok (.iload_n 1, 1) := by decide +kernel
theorem dX2_row_5 : decode cX2_row 5 = .ok (.iconst 2, 1) := by decide +kernel
theorem dX2_row_6 : decode cX2_row 6 = .ok (.if_icmp .gt 10, 3) := by decide +kernel
theorem dX2_row_9 : decode cX2_row 9 = .ok (.iload_n 2, 1) := by decide +kernel
theorem dX2_row_10 : decode cX2_row 10 = .ok (.invokestatic 33, 3) := by decide +kernel
theorem dX2_row_13 : decode cX2_row 13 = .ok (.ifCond .ne 6, 3) := by decide +kernel
theorem dX2_row_16 : decode cX2_row 16 = .ok (.bipush (-3), 2) := by decide +kernel
theorem dX2_row_18 : decode cX2_row 18 = .ok (.ireturn, 1) := by decide +kernel
theorem dX2_row_19 : decode cX2_row 19 = .ok (.aload_n 0, 1) := by decide +kernel
theorem dX2_row_20 : decode cX2_row 20 = .ok (.getfield 10, 3) := by decide +kernel
theorem dX2_row_23 : decode cX2_row 23 = .ok (.iload_n 1, 1) := by decide +kernel
theorem dX2_row_24 : decode cX2_row 24 = .ok (.iload_n 2, 1) := by decide +kernel
theorem dX2_row_25 : decode cX2_row 25 = .ok (.invokevirtual 37, 3) := by decide +kernel
theorem dX2_row_28 : decode cX2_row 28 = .ok (.ireturn, 1) := by decide +kernel
set_option maxRecDepth 20000 in
theorem ggX2_board_X2_isBoardForm : GoodIn wsX2_board wsX2_isBoardForm := goodIn_r _ [5] (by decide +kernel) (by decide +kernel)
set_option maxRecDepth 20000 in
theorem gX2_board_X2_isBoardForm : GoodIn wsX2_board (va_wsS RX2 41 yX2_isBoardForm wsX2_isBoardForm) := goodIn_app (goodIn_of _ (by decide +kernel)) ggX2_board_X2_isBoardForm
set_option maxRecDepth 20000 in
theorem ggX2_board_X2_isLength : GoodIn wsX2_board wsX2_isLength := goodIn_r _ [8] (by decide +kernel) (by decide +kernel)
set_option maxRecDepth 20000 in
theorem gX2_board_X2_isLength : GoodIn wsX2_board (va_wsS RX2 33 yX2_isLength wsX2_isLength) := goodIn_app (goodIn_of _ (by decide +kernel)) ggX2_board_X2_isLength
set_option maxRecDepth 20000 in
theorem ggX2_board_X1_add : GoodIn wsX2_board wsX1_add := goodIn_r _ [13, 14, 15, 16, 17, 18, 7, 4, 8, 3, 5, 24, 25, 26, 27, 28] (by decide +kernel) (by decide +kernel)
set_option maxRecDepth 20000 in
theorem gX2_board_X1_add : GoodIn wsX2_board (wsV RX2 37 RX1 yX1_add wsX1_add) := goodIn_app (goodIn_of _ (by decide +kernel)) ggX2_board_X1_add
theorem dX2_board_0 : decode cX2_board 0 = .ok (.iload_n 1, 1) := by decide +kernel
theorem dX2_board_1 : decode cX2_board 1 = .ok (.invokestatic 41, 3) := by decide +kernel
theorem dX2_board_4 : decode cX2_board 4 = .ok (.ifCond .eq 10, 3) := by decide +kernel
theorem dX2_board_7 : decode cX2_board 7 = .ok (.iload_n 2, 1) := by decide +kernel
theorem dX2_board_8 : decode cX2_board 8 = .ok (.invokestatic 33, 3) := by decide +kernel
theorem dX2_board_11 : decode cX2_board 11 = .ok (.ifCond .ne 6, 3) := by decide +kernel
theorem dX2_board_14 : decode cX2_board 14 = .ok (.bipush (-3), 2) := by decide +kernel
theorem dX2_board_16 : decode cX2_board 16 = .ok (.ireturn, 1) := by decide +kernel
theorem dX2_board_17 : decode cX2_board 17 = .ok (.aload_n 0, 1) := by decide +kernel
theorem dX2_board_18 : decode cX2_board 18 = .ok (.getfield 10, 3) := by decide +kernel
theorem dX2_board_21 : decode cX2_board 21 = .ok (.iload_n 1, 1) := by decide +kernel
theorem dX2_board_22 : decode cX2_board 22 = .ok (.iload_n 2, 1) := by decide +kernel
theorem dX2_board_23 : decode cX2_board 23 = .ok (.invokevirtual 37, 3) := by decide +kernel
theorem dX2_board_26 : decode cX2_board 26 = .ok (.ireturn, 1) := by decide +kernel
set_option maxRecDepth 20000 in
theorem ggX2_wire_X1_addWire : GoodIn wsX2_wire wsX1_addWire := goodIn_r _ [6, 7, 8, 9, 10, 5, 11, 12, 13, 14, 15, 16, 17, 18, 19, 20, 21, 22, 23, 24, 30, 31, 32, 33, 34] (by decide +kernel) (by decide +kernel)
set_option maxRecDepth 20000 in
theorem gX2_wire_X1_addWire : GoodIn wsX2_wire (wsV RX2 44 RX1 yX1_addWire wsX1_addWire) := goodIn_app (goodIn_of _ (by decide +kernel)) ggX2_wire_X1_addWire
theorem dX2_wire_0 : decode cX2_wire 0 = .ok (.aload_n 0, 1) := by decide +kernel
