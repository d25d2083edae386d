theorem dX1_init_23 : decode cX1_init 23 = .ok (.putfield 19, 3) := by decide +kernel
theorem dX1_init_26 : decode cX1_init 26 = .ok (.aload_n 0, 1) := by decide +kernel
theorem dX1_init_27 : decode cX1_init 27 = .ok (.aload_n 1, 1) := by decide +kernel
theorem dX1_init_28 : decode cX1_init 28 = .ok (.putfield 22, 3) := by decide +kernel
theorem dX1_init_31 : decode cX1_init 31 = .ok (.aload_n 0, 1) := by decide +kernel
theorem dX1_init_32 : decode cX1_init 32 = .ok (.aload_n 2, 1) := by decide +kernel
theorem dX1_init_33 : decode cX1_init 33 = .ok (.putfield 26, 3) := by decide +kernel
theorem dX1_init_36 : decode cX1_init 36 = .ok (.aload_n 0, 1) := by decide +kernel
theorem dX1_init_37 : decode cX1_init 37 = .ok (.aload_n 3, 1) := by decide +kernel
theorem dX1_init_38 : decode cX1_init 38 = .ok (.putfield 30, 3) := by decide +kernel
theorem dX1_init_41 : decode cX1_init 41 = .ok (.return_, 1) := by decide +kernel
theorem dX1_forget_0 : decode cX1_forget 0 = .ok (.aload_n 0, 1) := by decide +kernel
theorem dX1_forget_1 : decode cX1_forget 1 = .ok (.iconst 0, 1) := by decide +kernel
theorem dX1_forget_2 : decode cX1_forget 2 = .ok (.putfield 34, 3) := by decide +kernel
theorem dX1_forget_5 : decode cX1_forget 5 = .ok (.return_, 1) := by decide +kernel
set_option maxRecDepth 20000 in
theorem ggX1_bestMean_X1_prepare : GoodIn wsX1_bestMean wsX1_prepare := goodIn_r _ [6, 7, 8, 9, 1, 10, 11, 12, 13, 14, 15, 16, 17, 18, 19, 20, 21, 22, 23, 24, 25, 26, 27, 28, 29, 30, 31, 5, 32, 33, 34, 35, 36, 37, 38, 39, 40, 41, 42, 43, 44, 49, 50, 51, 52, 53, 54, 55, 56, 57, 58, 59, 60, 61, 62, 63, 64, 65, 66] rfl (by decide +kernel)
set_option maxRecDepth 20000 in
theorem gX1_bestMean_X1_prepare : GoodIn wsX1_bestMean (wsV RX1 38 RX1 yX1_prepare wsX1_prepare) := goodIn_app (goodIn_of _ (by decide +kernel)) ggX1_bestMean_X1_prepare
set_option maxRecDepth 20000 in
theorem ggX1_bestMean_X1_stateOf : GoodIn wsX1_bestMean wsX1_stateOf := goodIn_r _ [48, 9, 8, 49, 50, 51, 52, 53, 54, 55, 56, 57, 58, 59, 60, 61] rfl (by decide +kernel)
set_option maxRecDepth 20000 in
theorem gX1_bestMean_X1_stateOf : GoodIn wsX1_bestMean (wsV RX1 41 RX1 yX1_stateOf wsX1_stateOf) := goodIn_app (goodIn_of _ (by decide +kernel)) ggX1_bestMean_X1_stateOf
theorem dX1_bestMean_0 : decode cX1_bestMean 0 = .ok (.aload_n 0, 1) := by decide +kernel
theorem dX1_bestMean_1 : decode cX1_bestMean 1 = .ok (.invokevirtual 38, 3) := by decide +kernel
theorem dX1_bestMean_4 : decode cX1_bestMean 4 = .ok (.aload_n 0, 1) := by decide +kernel
theorem dX1_bestMean_5 : decode cX1_bestMean 5 = .ok (.getfield 15, 3) := by decide +kernel
theorem dX1_bestMean_8 : decode cX1_bestMean 8 = .ok (.aload_n 0, 1) := by decide +kernel
theorem dX1_bestMean_9 : decode cX1_bestMean 9 = .ok (.iload_n 1, 1) := by decide +kernel
theorem dX1_bestMean_10 : decode cX1_bestMean 10 = .ok (.iload_n 2, 1) := by decide +kernel
theorem dX1_bestMean_11 : decode cX1_bestMean 11 = .ok (.invokevirtual 41, 3) := by decide +kernel
theorem dX1_bestMean_14 : decode cX1_bestMean 14 = .ok (.laload, 1) := by decide +kernel
theorem dX1_bestMean_15 : decode cX1_bestMean 15 = .ok (.lreturn, 1) := by decide +kernel
set_option maxRecDepth 20000 in
theorem ggX1_worstPrice_X1_prepare : GoodIn wsX1_worstPrice wsX1_prepare := goodIn_r _ [6, 7, 8, 9, 10, 11, 12, 1, 13, 14, 15, 16, 17, 18, 19, 20, 21, 22, 23, 24, 25, 26, 27, 28, 29, 30, 31, 5, 32, 33, 34, 35, 36, 37, 38, 39, 40, 41, 42, 43, 44, 49, 50, 51, 52, 53, 54, 55, 56, 57, 58, 59, 60, 61, 62, 63, 64, 65, 66] rfl (by decide +kernel)
set_option maxRecDepth 20000 in
theorem gX1_worstPrice_X1_prepare : GoodIn wsX1_worstPrice (wsV RX1 38 RX1 yX1_prepare wsX1_prepare) := goodIn_app (goodIn_of _ (by decide +kernel)) ggX1_worstPrice_X1_prepare
set_option maxRecDepth 20000 in
theorem ggX1_worstPrice_X1_stateOf : GoodIn wsX1_worstPrice wsX1_stateOf := goodIn_r _ [48, 9, 8, 49, 50, 51, 52, 53, 54, 55, 56, 57, 58, 59, 60, 61] rfl (by decide +kernel)
set_option maxRecDepth 20000 in
theorem gX1_worstPrice_X1_stateOf : GoodIn wsX1_worstPrice (wsV RX1 41 RX1 yX1_stateOf wsX1_stateOf) := goodIn_app (goodIn_of _ (by decide +kernel)) ggX1_worstPrice_X1_stateOf
theorem dX1_worstPrice_0 : decode cX1_worstPrice 0 = .ok (.aload_n 0, 1) := by decide +kernel
theorem dX1_worstPrice_1 : decode cX1_worstPrice 1 = .ok (.invokevirtual 38, 3) := by decide +kernel
theorem dX1_worstPrice_4 : decode cX1_worstPrice 4 = .ok (.aload_n 0, 1) := by decide +kernel
theorem dX1_worstPrice_5 : decode cX1_worstPrice 5 = .ok (.getfield 19, 3) := by decide +kernel
theorem dX1_worstPrice_8 : decode cX1_worstPrice 8 = .ok (.aload_n 0, 1) := by decide +kernel
theorem dX1_worstPrice_9 : decode cX1_worstPrice 9 = .ok (.iload_n 1, 1) := by decide +kernel
theorem dX1_worstPrice_10 : decode cX1_worstPrice 10 = .ok (.iload_n 2, 1) := by decide +kernel
theorem dX1_worstPrice_11 : decode cX1_worstPrice 11 = .ok (.invokevirtual 41, 3) := by decide +kernel
theorem dX1_worstPrice_14 : decode cX1_worstPrice 14 = .ok (.iaload, 1) := by decide +kernel
theorem dX1_worstPrice_15 : decode cX1_worstPrice 15 = .ok (.ireturn, 1) := by decide +kernel
set_option maxRecDepth 20000 in
theorem ggX1_gain_X1_prepare : GoodIn wsX1_gain wsX1_prepare := goodIn_r _ [8, 9, 3, 1, 2, 10, 11, 12, 13, 14, 15, 16, 17, 18, 19, 20, 21, 22, 23, 24, 25, 26, 27, 28, 29, 30, 31, 7, 32, 33, 34, 35, 36, 37, 38, 39, 40, 41, 42, 43, 44, 49, 50, 51, 52, 53, 54, 55, 56, 57, 58, 59, 60, 61, 62, 63, 64, 65, 66] rfl (by decide +kernel)
set_option maxRecDepth 20000 in
theorem gX1_gain_X1_prepare : GoodIn wsX1_gain (wsV RX1 38 RX1 yX1_prepare wsX1_prepare) := goodIn_app (goodIn_of _ (by decide +kernel)) ggX1_gain_X1_prepare
set_option maxRecDepth 20000 in
theorem ggX1_gain_X1_stateOf : GoodIn wsX1_gain wsX1_stateOf := goodIn_r _ [48, 1, 3, 49, 50, 51, 52, 53, 54, 55, 56, 57, 58, 59, 60, 61] rfl (by decide +kernel)
set_option maxRecDepth 20000 in
theorem gX1_gain_X1_stateOf : GoodIn wsX1_gain (wsV RX1 41 RX1 yX1_stateOf wsX1_stateOf) := goodIn_app (goodIn_of _ (by decide +kernel)) ggX1_gain_X1_stateOf
theorem dX1_gain_0 : decode cX1_gain 0 = .ok (.aload_n 0, 1) := by decide +kernel
theorem dX1_gain_1 : decode cX1_gain 1 = .ok (.invokevirtual 38, 3) := by decide +kernel
theorem dX1_gain_4 : decode cX1_gain 4 = .ok (.aload_n 0, 1) := by decide +kernel
theorem dX1_gain_5 : decode cX1_gain 5 = .ok (.aload_n 0, 1) := by decide +kernel
theorem dX1_gain_6 : decode cX1_gain 6 = .ok (.getfield 22, 3) := by decide +kernel
theorem dX1_gain_9 : decode cX1_gain 9 = .ok (.getfield 45, 3) := by decide +kernel
theorem dX1_gain_12 : decode cX1_gain 12 = .ok (.aload_n 0, 1) := by decide +kernel
theorem dX1_gain_13 : decode cX1_gain 13 = .ok (.getfield 22, 3) := by decide +kernel
theorem dX1_gain_16 : decode cX1_gain 16 = .ok (.getfield 51, 3) := by decide +kernel
theorem dX1_gain_19 : decode cX1_gain 19 = .ok (.invokevirtual 41, 3) := by decide +kernel
theorem dX1_gain_22 : decode cX1_gain 22 = .ok (.istore_n 2, 1) := by decide +kernel
theorem dX1_gain_23 : decode cX1_gain 23 = .ok (.aload_n 0, 1) := by decide +kernel
theorem dX1_gain_24 : decode cX1_gain 24 = .ok (.getfield 15, 3) := by decide +kernel
theorem dX1_gain_27 : decode cX1_gain 27 = .ok (.iload_n 2, 1) := by decide +kernel
theorem dX1_gain_28 : decode cX1_gain 28 = .ok (.laload, 1) := by decide +kernel
theorem dX1_gain_29 : decode cX1_gain 29 = .ok (.aload_n 0, 1) := by decide +kernel
theorem dX1_gain_30 : decode cX1_gain 30 = .ok (.getfield 15, 3) := by decide +kernel
theorem dX1_gain_33 : decode cX1_gain 33 = .ok (.iload_n 2, 1) := by decide +kernel
theorem dX1_gain_34 : decode cX1_gain 34 = .ok (.getstatic 54, 3) := by decide +kernel
theorem dX1_gain_37 : decode cX1_gain 37 = .ok (.iload_n 1, 1) := by decide +kernel
theorem dX1_gain_38 : decode cX1_gain 38 = .ok (.iaload, 1) := by decide +kernel
theorem dX1_gain_39 : decode cX1_gain 39 = .ok (.iadd, 1) := by decide +kernel
theorem dX1_gain_40 : decode cX1_gain 40 = .ok (.laload, 1) := by decide +kernel
theorem dX1_gain_41 : decode cX1_gain 41 = .ok (.lsub, 1) := by decide +kernel
theorem dX1_gain_42 : decode cX1_gain 42 = .ok (.aload_n 0, 1) := by decide +kernel
theorem dX1_gain_43 : decode cX1_gain 43 = .ok (.getfield 15, 3) := by decide +kernel
theorem dX1_gain_46 : decode cX1_gain 46 = .ok (.iload_n 2, 1) := by decide +kernel
theorem dX1_gain_47 : decode cX1_gain 47 = .ok (.iconst 2, 1) := by decide +kernel
theorem dX1_gain_48 : decode cX1_gain 48 = .ok (.getstatic 54, 3) := by decide +kernel
theorem dX1_gain_51 : decode cX1_gain 51 = .ok (.iload_n 1, 1) := by decide +kernel
theorem dX1_gain_52 : decode cX1_gain 52 = .ok (.iaload, 1) := by decide +kernel
theorem dX1_gain_53 : decode cX1_gain 53 = .ok (.imul, 1) := by decide +kernel
theorem dX1_gain_54 : decode cX1_gain 54 = .ok (.iadd, 1) := by decide +kernel
theorem dX1_gain_55 : decode cX1_gain 55 = .ok (.laload, 1) := by decide +kernel
theorem dX1_gain_56 : decode cX1_gain 56 = .ok (.lsub, 1) := by decide +kernel
theorem dX1_gain_57 : decode cX1_gain 57 = .ok (.lreturn, 1) := by decide +kernel
set_option maxRecDepth 20000 in
theorem ggX1_next_X3_verdict : GoodIn wsX1_next wsX3_verdict := goodIn_r _ [8, 9, 10, 11, 7, 12, 13, 14, 15, 16, 17, 18, 98, 99, 100, 101, 102] rfl (by decide +kernel)
set_option maxRecDepth 20000 in
theorem gX1_next_X3_verdict : GoodIn wsX1_next (wsV RX1 60 RX3 yX3_verdict wsX3_verdict) := goodIn_app (goodIn_of _ (by decide +kernel)) ggX1_next_X3_verdict
set_option maxRecDepth 20000 in
theorem ggX1_next_X2_firstOutside : GoodIn wsX1_next wsX2_firstOutside := goodIn_r _ [23, 24, 25, 103, 104] rfl (by decide +kernel)
set_option maxRecDepth 20000 in
theorem gX1_next_X2_firstOutside : GoodIn wsX1_next (wsV RX1 65 RX2 yX2_firstOutside wsX2_firstOutside) := goodIn_app (goodIn_of _ (by decide +kernel)) ggX1_next_X2_firstOutside
set_option maxRecDepth 20000 in
theorem ggX1_next_X1_prepare : GoodIn wsX1_next wsX1_prepare := goodIn_r _ [30, 31, 32, 1, 33, 34, 35, 36, 2, 4, 5, 6, 7, 8, 9, 10, 11, 12, 13, 14, 15, 16, 17, 18, 37, 38, 39, 29, 40, 41, 42, 43, 44, 45, 46, 47, 48, 49, 50, 51, 52, 85, 86, 87, 88, 89, 90, 91, 92, 93, 94, 95, 96, 97, 98, 99, 100, 101, 102] rfl (by decide +kernel)
set_option maxRecDepth 20000 in
theorem gX1_next_X1_prepare : GoodIn wsX1_next (wsV RX1 38 RX1 yX1_prepare wsX1_prepare) := goodIn_app (goodIn_of _ (by decide +kernel)) ggX1_next_X1_prepare
set_option maxRecDepth 20000 in
theorem ggX1_next_X1_stateOf : GoodIn wsX1_next wsX1_stateOf := goodIn_r _ [56, 1, 32, 85, 86, 87, 88, 89, 90, 91, 92, 93, 94, 95, 96, 97] rfl (by decide +kernel)
set_option maxRecDepth 20000 in
theorem gX1_next_X1_stateOf : GoodIn wsX1_next (wsV RX1 41 RX1 yX1_stateOf wsX1_stateOf) := goodIn_app (goodIn_of _ (by decide +kernel)) ggX1_next_X1_stateOf
set_option maxRecDepth 20000 in
theorem ggX1_next_X4_left : GoodIn wsX1_next wsX4_left := goodIn_r _ [61, 62, 63, 64, 92, 93, 94, 95, 96, 97] rfl (by decide +kernel)
set_option maxRecDepth 20000 in
theorem gX1_next_X4_left : GoodIn wsX1_next (wsV RX1 70 RX4 yX4_left wsX4_left) := goodIn_app (goodIn_of _ (by decide +kernel)) ggX1_next_X4_left
set_option maxRecDepth 20000 in
theorem ggX1_next_X1_nextOfBest : GoodIn wsX1_next wsX1_nextOfBest := goodIn_r _ [68, 1, 33, 69, 70, 71, 29, 72, 32, 85, 86, 87, 88, 89, 90, 91, 92, 93, 94, 95, 96, 97] rfl (by decide +kernel)
set_option maxRecDepth 20000 in
theorem gX1_next_X1_nextOfBest : GoodIn wsX1_next (wsV RX1 74 RX1 yX1_nextOfBest wsX1_nextOfBest) := goodIn_app (goodIn_of _ (by decide +kernel)) ggX1_next_X1_nextOfBest
set_option maxRecDepth 20000 in
theorem ggX1_next_X1_nextOfWorst : GoodIn wsX1_next wsX1_nextOfWorst := goodIn_r _ [76, 1, 36, 77, 78, 79, 29, 80, 32, 81, 82, 83, 84, 85, 86, 87, 88, 89, 90, 91, 92, 93, 94, 95, 96, 97] rfl (by decide +kernel)
set_option maxRecDepth 20000 in
theorem gX1_next_X1_nextOfWorst : GoodIn wsX1_next (wsV RX1 78 RX1 yX1_nextOfWorst wsX1_nextOfWorst) := goodIn_app (goodIn_of _ (by decide +kernel)) ggX1_next_X1_nextOfWorst
theorem dX1_next_0 : decode cX1_next 0 = .ok (.iconst 1, 1) := by decide +kernel
theorem dX1_next_1 : decode cX1_next 1 = .ok (.aload_n 0, 1) := by decide +kernel
theorem dX1_next_2 : decode cX1_next 2 = .ok (.getfield 22, 3) := by decide +kernel
theorem dX1_next_5 : decode cX1_next 5 = .ok (.getfield 57, 3) := by decide +kernel
theorem dX1_next_8 : decode cX1_next 8 = .ok (.ishl, 1) := by decide +kernel
theorem dX1_next_9 : decode cX1_next 9 = .ok (.iconst 1, 1) := by decide +kernel
theorem dX1_next_10 : decode cX1_next 10 = .ok (.isub, 1) := by decide +kernel
theorem dX1_next_11 : decode cX1_next 11 = .ok (.iload_n 2, 1) := by decide +kernel
theorem dX1_next_12 : decode cX1_next 12 = .ok (.iconst (-1), 1) := by decide +kernel
theorem dX1_next_13 : decode cX1_next 13 = .ok (.ixor, 1) := by decide +kernel
theorem dX1_next_14 : decode cX1_next 14 = .ok (.iand, 1) := by decide +kernel
theorem dX1_next_15 : decode cX1_next 15 = .ok (.istore 4, 2) := by decide +kernel
theorem dX1_next_17 : decode cX1_next 17 = .ok (.aload_n 0, 1) := by decide +kernel
theorem dX1_next_18 : decode cX1_next 18 = .ok (.getfield 26, 3) := by decide +kernel
theorem dX1_next_21 : decode cX1_next 21 = .ok (.iload_n 3, 1) := by decide +kernel
theorem dX1_next_22 : decode cX1_next 22 = .ok (.iload 4, 2) := by decide +kernel
theorem dX1_next_24 : decode cX1_next 24 = .ok (.invokevirtual 60, 3) := by decide +kernel
theorem dX1_next_27 : decode cX1_next 27 = .ok (.iconst (-1), 1) := by decide +kernel
theorem dX1_next_28 : decode cX1_next 28 = .ok (.if_icmp .eq 5, 3) := by decide +kernel
theorem dX1_next_31 : decode cX1_next 31 = .ok (.iconst (-1), 1) := by decide +kernel
theorem dX1_next_32 : decode cX1_next 32 = .ok (.ireturn, 1) := by decide +kernel
theorem dX1_next_33 : decode cX1_next 33 = .ok (.iload_n 1, 1) := by decide +kernel
theorem dX1_next_34 : decode cX1_next 34 = .ok (.iconst 2, 1) := by decide +kernel
theorem dX1_next_35 : decode cX1_next 35 = .ok (.if_icmp .ne 19, 3) := by decide +kernel
theorem dX1_next_38 : decode cX1_next 38 = .ok (.aload_n 0, 1) := by decide +kernel
theorem dX1_next_39 : decode cX1_next 39 = .ok (.getfield 30, 3) := by decide +kernel
theorem dX1_next_42 : decode cX1_next 42 = .ok (.iload_n 2, 1) := by decide +kernel
theorem dX1_next_43 : decode cX1_next 43 = .ok (.aload_n 0, 1) := by decide +kernel
theorem dX1_next_44 : decode cX1_next 44 = .ok (.getfield 22, 3) := by decide +kernel
theorem dX1_next_47 : decode cX1_next 47 = .ok (.getfield 57, 3) := by decide +kernel
theorem dX1_next_50 : decode cX1_next 50 = .ok (.invokevirtual 65, 3) := by decide +kernel
theorem dX1_next_53 : decode cX1_next 53 = .ok (.ireturn, 1) := by decide +kernel
theorem dX1_next_54 : decode cX1_next 54 = .ok (.aload_n 0, 1) := by decide +kernel
theorem dX1_next_55 : decode cX1_next 55 = .ok (.invokevirtual 38, 3) := by decide +kernel
theorem dX1_next_58 : decode cX1_next 58 = .ok (.aload_n 0, 1) := by decide +kernel
theorem dX1_next_59 : decode cX1_next 59 = .ok (.iload_n 2, 1) := by decide +kernel
theorem dX1_next_60 : decode cX1_next 60 = .ok (.iload_n 3, 1) := by decide +kernel
theorem dX1_next_61 : decode cX1_next 61 = .ok (.invokevirtual 41, 3) := by decide +kernel
theorem dX1_next_64 : decode cX1_next 64 = .ok (.istore 5, 2) := by decide +kernel
theorem dX1_next_66 : decode cX1_next 66 = .ok (.iload_n 1, 1) := by decide +kernel
theorem dX1_next_67 : decode cX1_next 67 = .ok (.ifCond .ne 23, 3) := by decide +kernel
theorem dX1_next_70 : decode cX1_next 70 = .ok (.aload_n 0, 1) := by decide +kernel
theorem dX1_next_71 : decode cX1_next 71 = .ok (.iload 5, 2) := by decide +kernel
theorem dX1_next_73 : decode cX1_next 73 = .ok (.iload 4, 2) := by decide +kernel
theorem dX1_next_75 : decode cX1_next 75 = .ok (.aload_n 0, 1) := by decide +kernel
theorem dX1_next_76 : decode cX1_next 76 = .ok (.getfield 22, 3) := by decide +kernel
theorem dX1_next_79 : decode cX1_next 79 = .ok (.iload_n 2, 1) := by decide +kernel
theorem dX1_next_80 : decode cX1_next 80 = .ok (.iload_n 3, 1) := by decide +kernel
theorem dX1_next_81 : decode cX1_next 81 = .ok (.invokevirtual 70, 3) := by decide +kernel
theorem dX1_next_84 : decode cX1_next 84 = .ok (.invokevirtual 74, 3) := by decide +kernel
theorem dX1_next_87 : decode cX1_next 87 = .ok (.goto 11, 3) := by decide +kernel
theorem dX1_next_90 : decode cX1_next 90 = .ok (.aload_n 0, 1) := by decide +kernel
theorem dX1_next_91 : decode cX1_next 91 = .ok (.iload 5, 2) := by decide +kernel
theorem dX1_next_93 : decode cX1_next 93 = .ok (.iload 4, 2) := by decide +kernel
theorem dX1_next_95 : decode cX1_next 95 = .ok (.invokevirtual 78, 3) := by decide +kernel
theorem dX1_next_98 : decode cX1_next 98 = .ok (.ireturn, 1) := by decide +kernel
set_option maxRecDepth 20000 in
theorem ggX1_orderMean_X1_orderMeanFrom : GoodIn wsX1_orderMean wsX1_orderMeanFrom := goodIn_r _ [6, 1, 7, 8, 9, 5, 10, 11, 12, 13, 14, 15, 16, 17, 18, 19, 20, 21, 22, 23, 24, 25, 26, 27, 28, 29, 30, 31, 32, 33, 34, 35, 36, 37, 38, 39, 40, 41, 42, 43, 44, 45, 46, 47, 48, 49, 50, 51, 52, 53, 54, 55, 56, 57, 58, 59, 60, 61, 62, 63, 64, 65, 66, 67, 68, 69, 70, 71, 72, 73, 74, 75, 76, 77, 78, 79, 80, 81, 82, 83, 84, 85, 86, 87, 88, 89, 90, 91, 92, 2, 3, 4, 93, 94, 95, 96, 97, 98, 99, 100, 101, 102, 103, 104, 105, 106, 107, 108, 109, 110, 111, 112] rfl (by decide +kernel)
set_option maxRecDepth 20000 in
theorem gX1_orderMean_X1_orderMeanFrom : GoodIn wsX1_orderMean (wsV RX1 81 RX1 yX1_orderMeanFrom wsX1_orderMeanFrom) := goodIn_app (goodIn_of _ (by decide +kernel)) ggX1_orderMean_X1_orderMeanFrom
theorem dX1_orderMean_0 : decode cX1_orderMean 0 = .ok (.aload_n 0, 1) := by decide +kernel
theorem dX1_orderMean_1 : decode cX1_orderMean 1 = .ok (.aload_n 0, 1) := by decide +kernel
theorem dX1_orderMean_2 : decode cX1_orderMean 2 = .ok (.getfield 22, 3) := by decide +kernel
theorem dX1_orderMean_5 : decode cX1_orderMean 5 = .ok (.getfield 45, 3) := by decide +kernel
theorem dX1_orderMean_8 : decode cX1_orderMean 8 = .ok (.aload_n 0, 1) := by decide +kernel
theorem dX1_orderMean_9 : decode cX1_orderMean 9 = .ok (.getfield 22, 3) := by decide +kernel
theorem dX1_orderMean_12 : decode cX1_orderMean 12 = .ok (.getfield 51, 3) := by decide +kernel
theorem dX1_orderMean_15 : decode cX1_orderMean 15 = .ok (.iconst 0, 1) := by decide +kernel
theorem dX1_orderMean_16 : decode cX1_orderMean 16 = .ok (.invokevirtual 81, 3) := by decide +kernel
theorem dX1_orderMean_19 : decode cX1_orderMean 19 = .ok (.lreturn, 1) := by decide +kernel
set_option maxRecDepth 20000 in
theorem ggX1_orderWorst_X1_orderWorstFrom : GoodIn wsX1_orderWorst wsX1_orderWorstFrom := goodIn_r _ [6, 1, 7, 8, 9, 10, 11, 12, 13, 5, 14, 15, 16, 17, 18, 19, 20, 21, 22, 23, 24, 25, 26, 27, 28, 29, 30, 31, 32, 33, 34, 35, 36, 37, 38, 39, 40, 41, 42, 43, 44, 45, 46, 47, 48, 49, 50, 51, 52, 53, 54, 55, 56, 57, 58, 59, 60, 61, 62, 63, 64, 65, 66, 67, 68, 69, 70, 71, 72, 73, 74, 75, 76, 77, 78, 79, 80, 81, 82, 83, 84, 85, 86, 87, 88, 89, 90, 91, 92, 2, 3, 4, 93, 94, 95, 96, 97, 98, 99, 100, 101, 102, 103, 104, 105, 106, 107, 108, 109, 110, 111, 112] rfl (by decide +kernel)
set_option maxRecDepth 20000 in
theorem gX1_orderWorst_X1_orderWorstFrom : GoodIn wsX1_orderWorst (wsV RX1 85 RX1 yX1_orderWorstFrom wsX1_orderWorstFrom) := goodIn_app (goodIn_of _ (by decide +kernel)) ggX1_orderWorst_X1_orderWorstFrom
theorem dX1_orderWorst_0 : decode cX1_orderWorst 0 = .ok (.aload_n 0, 1) := by decide +kernel
theorem dX1_orderWorst_1 : decode cX1_orderWorst 1 = .ok (.aload_n 0, 1) := by decide +kernel
theorem dX1_orderWorst_2 : decode cX1_orderWorst 2 = .ok (.getfield 22, 3) := by decide +kernel
theorem dX1_orderWorst_5 : decode cX1_orderWorst 5 = .ok (.getfield 45, 3) := by decide +kernel
theorem dX1_orderWorst_8 : decode cX1_orderWorst 8 = .ok (.aload_n 0, 1) := by decide +kernel
theorem dX1_orderWorst_9 : decode cX1_orderWorst 9 = .ok (.getfield 22, 3) := by decide +kernel
theorem dX1_orderWorst_12 : decode cX1_orderWorst 12 = .ok (.getfield 51, 3) := by decide +kernel
theorem dX1_orderWorst_15 : decode cX1_orderWorst 15 = .ok (.iconst 0, 1) := by decide +kernel
theorem dX1_orderWorst_16 : decode cX1_orderWorst 16 = .ok (.invokevirtual 85, 3) := by decide +kernel
theorem dX1_orderWorst_19 : decode cX1_orderWorst 19 = .ok (.ireturn, 1) := by decide +kernel
set_option maxRecDepth 20000 in
theorem ggX1_orderMeanFrom_X1_next : GoodIn wsX1_orderMeanFrom wsX1_next := goodIn_r _ [6, 1, 7, 8, 9, 10, 11, 12, 13, 14, 15, 16, 17, 18, 19, 20, 21, 22, 23, 24, 25, 26, 27, 28, 29, 30, 31, 32, 33, 5, 34, 35, 36, 37, 38, 39, 40, 41, 42, 43, 44, 45, 46, 47, 48, 49, 50, 51, 52, 53, 54, 55, 56, 57, 58, 59, 60, 61, 62, 63, 64, 65, 66, 67, 68, 69, 70, 71, 72, 73, 74, 75, 76, 77, 78, 79, 80, 81, 82, 83, 84, 85, 86, 87, 88, 92, 93, 94, 95, 96, 97, 98, 99, 100, 101, 102, 103, 104, 105, 106, 107, 108, 109, 110, 111] rfl (by decide +kernel)
set_option maxRecDepth 20000 in
theorem gX1_orderMeanFrom_X1_next : GoodIn wsX1_orderMeanFrom (wsV RX1 89 RX1 yX1_next wsX1_next) := goodIn_app (goodIn_of _ (by decide +kernel)) ggX1_orderMeanFrom_X1_next
set_option maxRecDepth 20000 in
theorem ggX1_orderMeanFrom_X4_left : GoodIn wsX1_orderMeanFrom wsX4_left := goodIn_r _ [65, 66, 67, 68, 99, 100, 101, 102, 103, 104] rfl (by decide +kernel)
set_option maxRecDepth 20000 in
theorem gX1_orderMeanFrom_X4_left : GoodIn wsX1_orderMeanFrom (wsV RX1 70 RX4 yX4_left wsX4_left) := goodIn_app (goodIn_of _ (by decide +kernel)) ggX1_orderMeanFrom_X4_left
set_option maxRecDepth 20000 in
theorem ggX1_orderMeanFrom_X1_orderMeanFrom : GoodIn wsX1_orderMeanFrom wsX1_orderMeanFrom := goodIn_r _ [0, 1, 2, 3, 4, 5, 6, 7, 8, 9, 10, 11, 12, 13, 14, 15, 16, 17, 18, 19, 20, 21, 22, 23, 24, 25, 26, 27, 28, 29, 30, 31, 32, 33, 34, 35, 36, 37, 38, 39, 40, 41, 42, 43, 44, 45, 46, 47, 48, 49, 50, 51, 52, 53, 54, 55, 56, 57, 58, 59, 60, 61, 62, 63, 64, 65, 66, 67, 68, 69, 70, 71, 72, 73, 74, 75, 76, 77, 78, 79, 80, 81, 82, 83, 84, 85, 86, 87, 88, 89, 90, 91, 92, 93, 94, 95, 96, 97, 98, 99, 100, 101, 102, 103, 104, 105, 106, 107, 108, 109, 110, 111] rfl (by decide +kernel)
set_option maxRecDepth 20000 in
theorem gX1_orderMeanFrom_X1_orderMeanFrom : GoodIn wsX1_orderMeanFrom (wsV RX1 81 RX1 yX1_orderMeanFrom wsX1_orderMeanFrom) := goodIn_app (goodIn_of _ (by decide +kernel)) ggX1_orderMeanFrom_X1_orderMeanFrom
theorem dX1_orderMeanFrom_0 : decode cX1_orderMeanFrom 0 = .ok (.aload_n 0, 1) := by decide +kernel
theorem dX1_orderMeanFrom_1 : decode cX1_orderMeanFrom 1 = .ok (.iconst 2, 1) := by decide +kernel
theorem dX1_orderMeanFrom_2 : decode cX1_orderMeanFrom 2 = .ok (.iload_n 1, 1) := by decide +kernel
theorem dX1_orderMeanFrom_3 : decode cX1_orderMeanFrom 3 = .ok (.iload_n 2, 1) := by decide +kernel
theorem dX1_orderMeanFrom_4 : decode cX1_orderMeanFrom 4 = .ok (.invokevirtual 89, 3) := by decide +kernel
theorem dX1_orderMeanFrom_7 : decode cX1_orderMeanFrom 7 = .ok (.istore 4, 2) := by decide +kernel
theorem dX1_orderMeanFrom_9 : decode cX1_orderMeanFrom 9 = .ok (.iload 4, 2) := by decide +kernel
theorem dX1_orderMeanFrom_11 : decode cX1_orderMeanFrom 11 = .ok (.iconst (-1), 1) := by decide +kernel
theorem dX1_orderMeanFrom_12 : decode cX1_orderMeanFrom 12 = .ok (.if_icmp .ne 16, 3) := by decide +kernel
theorem dX1_orderMeanFrom_15 : decode cX1_orderMeanFrom 15 = .ok (.iload_n 3, 1) := by decide +kernel
theorem dX1_orderMeanFrom_16 : decode cX1_orderMeanFrom 16 = .ok (.i2l, 1) := by decide +kernel
theorem dX1_orderMeanFrom_17 : decode cX1_orderMeanFrom 17 = .ok (.aload_n 0, 1) := by decide +kernel
theorem dX1_orderMeanFrom_18 : decode cX1_orderMeanFrom 18 = .ok (.getfield 22, 3) := by decide +kernel
theorem dX1_orderMeanFrom_21 : decode cX1_orderMeanFrom 21 = .ok (.iload_n 1, 1) := by decide +kernel
theorem dX1_orderMeanFrom_22 : decode cX1_orderMeanFrom 22 = .ok (.iload_n 2, 1) := by decide +kernel
theorem dX1_orderMeanFrom_23 : decode cX1_orderMeanFrom 23 = .ok (.invokevirtual 70, 3) := by decide +kernel
theorem dX1_orderMeanFrom_26 : decode cX1_orderMeanFrom 26 = .ok (.lmul, 1) := by decide +kernel
theorem dX1_orderMeanFrom_27 : decode cX1_orderMeanFrom 27 = .ok (.lreturn, 1) := by decide +kernel
theorem dX1_orderMeanFrom_28 : decode cX1_orderMeanFrom 28 = .ok (.iload_n 1, 1) := by decide +kernel
theorem dX1_orderMeanFrom_29 : decode cX1_orderMeanFrom 29 = .ok (.iconst 1, 1) := by decide +kernel
theorem dX1_orderMeanFrom_30 : decode cX1_orderMeanFrom 30 = .ok (.iload 4, 2) := by decide +kernel
theorem dX1_orderMeanFrom_32 : decode cX1_orderMeanFrom 32 = .ok (.ishl, 1) := by decide +kernel
theorem dX1_orderMeanFrom_33 : decode cX1_orderMeanFrom 33 = .ok (.ior, 1) := by decide +kernel
theorem dX1_orderMeanFrom_34 : decode cX1_orderMeanFrom 34 = .ok (.istore 5, 2) := by decide +kernel
theorem dX1_orderMeanFrom_36 : decode cX1_orderMeanFrom 36 = .ok (.iload_n 3, 1) := by decide +kernel
theorem dX1_orderMeanFrom_37 : decode cX1_orderMeanFrom 37 = .ok (.aload_n 0, 1) := by decide +kernel
theorem dX1_orderMeanFrom_38 : decode cX1_orderMeanFrom 38 = .ok (.getfield 22, 3) := by decide +kernel
theorem dX1_orderMeanFrom_41 : decode cX1_orderMeanFrom 41 = .ok (.getfield 92, 3) := by decide +kernel
theorem dX1_orderMeanFrom_44 : decode cX1_orderMeanFrom 44 = .ok (.iload 4, 2) := by decide +kernel
theorem dX1_orderMeanFrom_46 : decode cX1_orderMeanFrom 46 = .ok (.iaload, 1) := by decide +kernel
theorem dX1_orderMeanFrom_47 : decode cX1_orderMeanFrom 47 = .ok (.iadd, 1) := by decide +kernel
theorem dX1_orderMeanFrom_48 : decode cX1_orderMeanFrom 48 = .ok (.istore 6, 2) := by decide +kernel
theorem dX1_orderMeanFrom_50 : decode cX1_orderMeanFrom 50 = .ok (.aload_n 0, 1) := by decide +kernel
theorem dX1_orderMeanFrom_51 : decode cX1_orderMeanFrom 51 = .ok (.iload 5, 2) := by decide +kernel
theorem dX1_orderMeanFrom_53 : decode cX1_orderMeanFrom 53 = .ok (.iload_n 2, 1) := by decide +kernel
theorem dX1_orderMeanFrom_54 : decode cX1_orderMeanFrom 54 = .ok (.iconst 1, 1) := by decide +kernel
theorem dX1_orderMeanFrom_55 : decode cX1_orderMeanFrom 55 = .ok (.iload 4, 2) := by decide +kernel
theorem dX1_orderMeanFrom_57 : decode cX1_orderMeanFrom 57 = .ok (.ishl, 1) := by decide +kernel
theorem dX1_orderMeanFrom_58 : decode cX1_orderMeanFrom 58 = .ok (.ior, 1) := by decide +kernel
theorem dX1_orderMeanFrom_59 : decode cX1_orderMeanFrom 59 = .ok (.iload 6, 2) := by decide +kernel
theorem dX1_orderMeanFrom_61 : decode cX1_orderMeanFrom 61 = .ok (.invokevirtual 81, 3) := by decide +kernel
theorem dX1_orderMeanFrom_64 : decode cX1_orderMeanFrom 64 = .ok (.aload_n 0, 1) := by decide +kernel
theorem dX1_orderMeanFrom_65 : decode cX1_orderMeanFrom 65 = .ok (.iload 5, 2) := by decide +kernel
theorem dX1_orderMeanFrom_67 : decode cX1_orderMeanFrom 67 = .ok (.iload_n 2, 1) := by decide +kernel
theorem dX1_orderMeanFrom_68 : decode cX1_orderMeanFrom 68 = .ok (.iload 6, 2) := by decide +kernel
theorem dX1_orderMeanFrom_70 : decode cX1_orderMeanFrom 70 = .ok (.invokevirtual 81, 3) := by decide +kernel
theorem dX1_orderMeanFrom_73 : decode cX1_orderMeanFrom 73 = .ok (.ladd, 1) := by decide +kernel
theorem dX1_orderMeanFrom_74 : decode cX1_orderMeanFrom 74 = .ok (.lreturn, 1) := by decide +kernel
set_option maxRecDepth 20000 in
theorem ggX1_orderWorstFrom_X1_next : GoodIn wsX1_orderWorstFrom wsX1_next := goodIn_r _ [10, 1, 11, 12, 13, 14, 15, 16, 17, 18, 19, 20, 21, 22, 23, 24, 25, 26, 27, 28, 29, 30, 31, 32, 33, 34, 35, 36, 37, 9, 38, 39, 40, 41, 42, 43, 44, 45, 46, 47, 48, 49, 50, 51, 52, 53, 54, 55, 56, 57, 58, 59, 60, 61, 62, 63, 64, 65, 66, 67, 68, 69, 70, 71, 72, 73, 74, 75, 76, 77, 78, 79, 80, 81, 82, 83, 84, 85, 86, 87, 88, 2, 3, 4, 5, 92, 93, 94, 95, 96, 97, 98, 99, 100, 101, 102, 103, 104, 105, 106, 107, 108, 109, 110, 111] rfl (by decide +kernel)
set_option maxRecDepth 20000 in
theorem gX1_orderWorstFrom_X1_next : GoodIn wsX1_orderWorstFrom (wsV RX1 89 RX1 yX1_next wsX1_next) := goodIn_app (goodIn_of _ (by decide +kernel)) ggX1_orderWorstFrom_X1_next
set_option maxRecDepth 20000 in
theorem ggX1_orderWorstFrom_X1_orderWorstFrom : GoodIn wsX1_orderWorstFrom wsX1_orderWorstFrom := goodIn_r _ [0, 1, 2, 3, 4, 5, 6, 7, 8, 9, 10, 11, 12, 13, 14, 15, 16, 17, 18, 19, 20, 21, 22, 23, 24, 25, 26, 27, 28, 29, 30, 31, 32, 33, 34, 35, 36, 37, 38, 39, 40, 41, 42, 43, 44, 45, 46, 47, 48, 49, 50, 51, 52, 53, 54, 55, 56, 57, 58, 59, 60, 61, 62, 63, 64, 65, 66, 67, 68, 69, 70, 71, 72, 73, 74, 75, 76, 77, 78, 79, 80, 81, 82, 83, 84, 85, 86, 87, 88, 89, 90, 91, 92, 93, 94, 95, 96, 97, 98, 99, 100, 101, 102, 103, 104, 105, 106, 107, 108, 109, 110, 111] rfl (by decide +kernel)
set_option maxRecDepth 20000 in
theorem gX1_orderWorstFrom_X1_orderWorstFrom : GoodIn wsX1_orderWorstFrom (wsV RX1 85 RX1 yX1_orderWorstFrom wsX1_orderWorstFrom) := goodIn_app (goodIn_of _ (by decide +kernel)) ggX1_orderWorstFrom_X1_orderWorstFrom
theorem dX1_orderWorstFrom_0 : decode cX1_orderWorstFrom 0 = .ok (.aload_n 0, 1) := by decide +kernel
theorem dX1_orderWorstFrom_1 : decode cX1_orderWorstFrom 1 = .ok (.iconst 2, 1) := by decide +kernel
theorem dX1_orderWorstFrom_2 : decode cX1_orderWorstFrom 2 = .ok (.iload_n 1, 1) := by decide +kernel
theorem dX1_orderWorstFrom_3 : decode cX1_orderWorstFrom 3 = .ok (.iload_n 2, 1) := by decide +kernel
theorem dX1_orderWorstFrom_4 : decode cX1_orderWorstFrom 4 = .ok (.invokevirtual 89, 3) := by decide +kernel
theorem dX1_orderWorstFrom_7 : decode cX1_orderWorstFrom 7 = .ok (.istore 4, 2) := by decide +kernel
theorem dX1_orderWorstFrom_9 : decode cX1_orderWorstFrom 9 = .ok (.iload 4, 2) := by decide +kernel
theorem dX1_orderWorstFrom_11 : decode cX1_orderWorstFrom 11 = .ok (.iconst (-1), 1) := by decide +kernel
theorem dX1_orderWorstFrom_12 : decode cX1_orderWorstFrom 12 = .ok (.if_icmp .ne 5, 3) := by decide +kernel
theorem dX1_orderWorstFrom_15 : decode cX1_orderWorstFrom 15 = .ok (.iload_n 3, 1) := by decide +kernel
theorem dX1_orderWorstFrom_16 : decode cX1_orderWorstFrom 16 = .ok (.ireturn, 1) := by decide +kernel
theorem dX1_orderWorstFrom_17 : decode cX1_orderWorstFrom 17 = .ok (.iload_n 1, 1) := by decide +kernel
theorem dX1_orderWorstFrom_18 : decode cX1_orderWorstFrom 18 = .ok (.iconst 1, 1) := by decide +kernel
theorem dX1_orderWorstFrom_19 : decode cX1_orderWorstFrom 19 = .ok (.iload 4, 2) := by decide +kernel
theorem dX1_orderWorstFrom_21 : decode cX1_orderWorstFrom 21 = .ok (.ishl, 1) := by decide +kernel
theorem dX1_orderWorstFrom_22 : decode cX1_orderWorstFrom 22 = .ok (.ior, 1) := by decide +kernel
theorem dX1_orderWorstFrom_23 : decode cX1_orderWorstFrom 23 = .ok (.istore 5, 2) := by decide +kernel
theorem dX1_orderWorstFrom_25 : decode cX1_orderWorstFrom 25 = .ok (.iload_n 3, 1) := by decide +kernel
theorem dX1_orderWorstFrom_26 : decode cX1_orderWorstFrom 26 = .ok (.aload_n 0, 1) := by decide +kernel
theorem dX1_orderWorstFrom_27 : decode cX1_orderWorstFrom 27 = .ok (.getfield 22, 3) := by decide +kernel
theorem dX1_orderWorstFrom_30 : decode cX1_orderWorstFrom 30 = .ok (.getfield 92, 3) := by decide +kernel
theorem dX1_orderWorstFrom_33 : decode cX1_orderWorstFrom 33 = .ok (.iload 4, 2) := by decide +kernel
theorem dX1_orderWorstFrom_35 : decode cX1_orderWorstFrom 35 = .ok (.iaload, 1) := by decide +kernel
theorem dX1_orderWorstFrom_36 : decode cX1_orderWorstFrom 36 = .ok (.iadd, 1) := by decide +kernel
theorem dX1_orderWorstFrom_37 : decode cX1_orderWorstFrom 37 = .ok (.istore 6, 2) := by decide +kernel
theorem dX1_orderWorstFrom_39 : decode cX1_orderWorstFrom 39 = .ok (.aload_n 0, 1) := by decide +kernel
theorem dX1_orderWorstFrom_40 : decode cX1_orderWorstFrom 40 = .ok (.iload 5, 2) := by decide +kernel
theorem dX1_orderWorstFrom_42 : decode cX1_orderWorstFrom 42 = .ok (.iload_n 2, 1) := by decide +kernel
theorem dX1_orderWorstFrom_43 : decode cX1_orderWorstFrom 43 = .ok (.iconst 1, 1) := by decide +kernel
theorem dX1_orderWorstFrom_44 : decode cX1_orderWorstFrom 44 = .ok (.iload 4, 2) := by decide +kernel
theorem dX1_orderWorstFrom_46 : decode cX1_orderWorstFrom 46 = .ok (.ishl, 1) := by decide +kernel
theorem dX1_orderWorstFrom_47 : decode cX1_orderWorstFrom 47 = .ok (.ior, 1) := by decide +kernel
theorem dX1_orderWorstFrom_48 : decode cX1_orderWorstFrom 48 = .ok (.iload 6, 2) := by decide +kernel
theorem dX1_orderWorstFrom_50 : decode cX1_orderWorstFrom 50 = .ok (.invokevirtual 85, 3) := by decide +kernel
theorem dX1_orderWorstFrom_53 : decode cX1_orderWorstFrom 53 = .ok (.aload_n 0, 1) := by decide +kernel
theorem dX1_orderWorstFrom_54 : decode cX1_orderWorstFrom 54 = .ok (.iload 5, 2) := by decide +kernel
theorem dX1_orderWorstFrom_56 : decode cX1_orderWorstFrom 56 = .ok (.iload_n 2, 1) := by decide +kernel
theorem dX1_orderWorstFrom_57 : decode cX1_orderWorstFrom 57 = .ok (.iload 6, 2) := by decide +kernel
theorem dX1_orderWorstFrom_59 : decode cX1_orderWorstFrom 59 = .ok (.invokevirtual 85, 3) := by decide +kernel
theorem dX1_orderWorstFrom_62 : decode cX1_orderWorstFrom 62 = .ok (.invokestatic 95, 3) := by decide +kernel
theorem dX1_orderWorstFrom_65 : decode cX1_orderWorstFrom 65 = .ok (.ireturn, 1) := by decide +kernel
set_option maxRecDepth 20000 in
theorem ggX1_nextOfBest_X1_meanFrom : GoodIn wsX1_nextOfBest wsX1_meanFrom := goodIn_r _ [7, 1, 2, 8, 9, 10, 11, 12, 13, 14, 15, 16, 17, 18, 19, 20, 21] rfl (by decide +kernel)
set_option maxRecDepth 20000 in
theorem gX1_nextOfBest_X1_meanFrom : GoodIn wsX1_nextOfBest (wsV RX1 100 RX1 yX1_meanFrom wsX1_meanFrom) := goodIn_app (goodIn_of _ (by decide +kernel)) ggX1_nextOfBest_X1_meanFrom
theorem dX1_nextOfBest_0 : decode cX1_nextOfBest 0 = .ok (.iconst 0, 1) := by decide +kernel
theorem dX1_nextOfBest_1 : decode cX1_nextOfBest 1 = .ok (.istore 5, 2) := by decide +kernel
theorem dX1_nextOfBest_3 : decode cX1_nextOfBest 3 = .ok (.iload 5, 2) := by decide +kernel
theorem dX1_nextOfBest_5 : decode cX1_nextOfBest 5 = .ok (.aload_n 0, 1) := by decide +kernel
theorem dX1_nextOfBest_6 : decode cX1_nextOfBest 6 = .ok (.getfield 22, 3) := by decide +kernel
theorem dX1_nextOfBest_9 : decode cX1_nextOfBest 9 = .ok (.getfield 57, 3) := by decide +kernel
theorem dX1_nextOfBest_12 : decode cX1_nextOfBest 12 = .ok (.if_icmp .ge 40, 3) := by decide +kernel
theorem dX1_nextOfBest_15 : decode cX1_nextOfBest 15 = .ok (.iload_n 2, 1) := by decide +kernel
theorem dX1_nextOfBest_16 : decode cX1_nextOfBest 16 = .ok (.iload 5, 2) := by decide +kernel
theorem dX1_nextOfBest_18 : decode cX1_nextOfBest 18 = .ok (.ishr, 1) := by decide +kernel
theorem dX1_nextOfBest_19 : decode cX1_nextOfBest 19 = .ok (.iconst 1, 1) := by decide +kernel
theorem dX1_nextOfBest_20 : decode cX1_nextOfBest 20 = .ok (.iand, 1) := by decide +kernel
theorem dX1_nextOfBest_21 : decode cX1_nextOfBest 21 = .ok (.iconst 1, 1) := by decide +kernel
theorem dX1_nextOfBest_22 : decode cX1_nextOfBest 22 = .ok (.if_icmp .ne 24, 3) := by decide +kernel
theorem dX1_nextOfBest_25 : decode cX1_nextOfBest 25 = .ok (.aload_n 0, 1) := by decide +kernel
theorem dX1_nextOfBest_26 : decode cX1_nextOfBest 26 = .ok (.iload 5, 2) := by decide +kernel
theorem dX1_nextOfBest_28 : decode cX1_nextOfBest 28 = .ok (.iload_n 1, 1) := by decide +kernel
theorem dX1_nextOfBest_29 : decode cX1_nextOfBest 29 = .ok (.lload_n 3, 1) := by decide +kernel
theorem dX1_nextOfBest_30 : decode cX1_nextOfBest 30 = .ok (.invokevirtual 100, 3) := by decide +kernel
theorem dX1_nextOfBest_33 : decode cX1_nextOfBest 33 = .ok (.aload_n 0, 1) := by decide +kernel
theorem dX1_nextOfBest_34 : decode cX1_nextOfBest 34 = .ok (.getfield 15, 3) := by decide +kernel
theorem dX1_nextOfBest_37 : decode cX1_nextOfBest 37 = .ok (.iload_n 1, 1) := by decide +kernel
theorem dX1_nextOfBest_38 : decode cX1_nextOfBest 38 = .ok (.laload, 1) := by decide +kernel
theorem dX1_nextOfBest_39 : decode cX1_nextOfBest 39 = .ok (.lcmp, 1) := by decide +kernel
theorem dX1_nextOfBest_40 : decode cX1_nextOfBest 40 = .ok (.ifCond .ne 6, 3) := by decide +kernel
theorem dX1_nextOfBest_43 : decode cX1_nextOfBest 43 = .ok (.iload 5, 2) := by decide +kernel
theorem dX1_nextOfBest_45 : decode cX1_nextOfBest 45 = .ok (.ireturn, 1) := by decide +kernel
theorem dX1_nextOfBest_46 : decode cX1_nextOfBest 46 = .ok (.iinc 5 1, 3) := by decide +kernel
theorem dX1_nextOfBest_49 : decode cX1_nextOfBest 49 = .ok (.goto (-46), 3) := by decide +kernel
theorem dX1_nextOfBest_52 : decode cX1_nextOfBest 52 = .ok (.iconst (-1), 1) := by decide +kernel
theorem dX1_nextOfBest_53 : decode cX1_nextOfBest 53 = .ok (.ireturn, 1) := by decide +kernel
set_option maxRecDepth 20000 in
theorem ggX1_nextOfWorst_X1_worstFrom : GoodIn wsX1_nextOfWorst wsX1_worstFrom := goodIn_r _ [7, 1, 2, 8, 9, 10, 11, 12, 13, 14, 15, 16, 17, 18, 19, 20, 21, 22, 23, 24, 25] rfl (by decide +kernel)
set_option maxRecDepth 20000 in
theorem gX1_nextOfWorst_X1_worstFrom : GoodIn wsX1_nextOfWorst (wsV RX1 104 RX1 yX1_worstFrom wsX1_worstFrom) := goodIn_app (goodIn_of _ (by decide +kernel)) ggX1_nextOfWorst_X1_worstFrom
theorem dX1_nextOfWorst_0 : decode cX1_nextOfWorst 0 = .ok (.iconst 0, 1) := by decide +kernel
theorem dX1_nextOfWorst_1 : decode cX1_nextOfWorst 1 = .ok (.istore_n 3, 1) := by decide +kernel
theorem dX1_nextOfWorst_2 : decode cX1_nextOfWorst 2 = .ok (.iload_n 3, 1) := by decide +kernel
theorem dX1_nextOfWorst_3 : decode cX1_nextOfWorst 3 = .ok (.aload_n 0, 1) := by decide +kernel
theorem dX1_nextOfWorst_4 : decode cX1_nextOfWorst 4 = .ok (.getfield 22, 3) := by decide +kernel
theorem dX1_nextOfWorst_7 : decode cX1_nextOfWorst 7 = .ok (.getfield 57, 3) := by decide +kernel
theorem dX1_nextOfWorst_10 : decode cX1_nextOfWorst 10 = .ok (.if_icmp .ge 35, 3) := by decide +kernel
theorem dX1_nextOfWorst_13 : decode cX1_nextOfWorst 13 = .ok (.iload_n 2, 1) := by decide +kernel
theorem dX1_nextOfWorst_14 : decode cX1_nextOfWorst 14 = .ok (.iload_n 3, 1) := by decide +kernel
theorem dX1_nextOfWorst_15 : decode cX1_nextOfWorst 15 = .ok (.ishr, 1) := by decide +kernel
theorem dX1_nextOfWorst_16 : decode cX1_nextOfWorst 16 = .ok (.iconst 1, 1) := by decide +kernel
theorem dX1_nextOfWorst_17 : decode cX1_nextOfWorst 17 = .ok (.iand, 1) := by decide +kernel
theorem dX1_nextOfWorst_18 : decode cX1_nextOfWorst 18 = .ok (.iconst 1, 1) := by decide +kernel
theorem dX1_nextOfWorst_19 : decode cX1_nextOfWorst 19 = .ok (.if_icmp .ne 20, 3) := by decide +kernel
theorem dX1_nextOfWorst_22 : decode cX1_nextOfWorst 22 = .ok (.aload_n 0, 1) := by decide +kernel
theorem dX1_nextOfWorst_23 : decode cX1_nextOfWorst 23 = .ok (.iload_n 3, 1) := by decide +kernel
theorem dX1_nextOfWorst_24 : decode cX1_nextOfWorst 24 = .ok (.iload_n 1, 1) := by decide +kernel
theorem dX1_nextOfWorst_25 : decode cX1_nextOfWorst 25 = .ok (.invokevirtual 104, 3) := by decide +kernel
theorem dX1_nextOfWorst_28 : decode cX1_nextOfWorst 28 = .ok (.aload_n 0, 1) := by decide +kernel
theorem dX1_nextOfWorst_29 : decode cX1_nextOfWorst 29 = .ok (.getfield 19, 3) := by decide +kernel
theorem dX1_nextOfWorst_32 : decode cX1_nextOfWorst 32 = .ok (.iload_n 1, 1) := by decide +kernel
theorem dX1_nextOfWorst_33 : decode cX1_nextOfWorst 33 = .ok (.iaload, 1) := by decide +kernel
theorem dX1_nextOfWorst_34 : decode cX1_nextOfWorst 34 = .ok (.if_icmp .ne 5, 3) := by decide +kernel
theorem dX1_nextOfWorst_37 : decode cX1_nextOfWorst 37 = .ok (.iload_n 3, 1) := by decide +kernel
theorem dX1_nextOfWorst_38 : decode cX1_nextOfWorst 38 = .ok (.ireturn, 1) := by decide +kernel
theorem dX1_nextOfWorst_39 : decode cX1_nextOfWorst 39 = .ok (.iinc 3 1, 3) := by decide +kernel
theorem dX1_nextOfWorst_42 : decode cX1_nextOfWorst 42 = .ok (.goto (-40), 3) := by decide +kernel
theorem dX1_nextOfWorst_45 : decode cX1_nextOfWorst 45 = .ok (.iconst (-1), 1) := by decide +kernel
theorem dX1_nextOfWorst_46 : decode cX1_nextOfWorst 46 = .ok (.ireturn, 1) := by decide +kernel
theorem dX1_meanFrom_0 : decode cX1_meanFrom 0 = .ok (.aload_n 0, 1) := by decide +kernel
theorem dX1_meanFrom_1 : decode cX1_meanFrom 1 = .ok (.getfield 22, 3) := by decide +kernel
theorem dX1_meanFrom_4 : decode cX1_meanFrom 4 = .ok (.getfield 92, 3) := by decide +kernel
theorem dX1_meanFrom_7 : decode cX1_meanFrom 7 = .ok (.iload_n 1, 1) := by decide +kernel
theorem dX1_meanFrom_8 : decode cX1_meanFrom 8 = .ok (.iaload, 1) := by decide +kernel
theorem dX1_meanFrom_9 : decode cX1_meanFrom 9 = .ok (.i2l, 1) := by decide +kernel
theorem dX1_meanFrom_10 : decode cX1_meanFrom 10 = .ok (.lload_n 3, 1) := by decide +kernel
theorem dX1_meanFrom_11 : decode cX1_meanFrom 11 = .ok (.lmul, 1) := by decide +kernel
theorem dX1_meanFrom_12 : decode cX1_meanFrom 12 = .ok (.aload_n 0, 1) := by decide +kernel
theorem dX1_meanFrom_13 : decode cX1_meanFrom 13 = .ok (.getfield 15, 3) := by decide +kernel
theorem dX1_meanFrom_16 : decode cX1_meanFrom 16 = .ok (.iload_n 2, 1) := by decide +kernel
theorem dX1_meanFrom_17 : decode cX1_meanFrom 17 = .ok (.getstatic 54, 3) := by decide +kernel
theorem dX1_meanFrom_20 : decode cX1_meanFrom 20 = .ok (.iload_n 1, 1) := by decide +kernel
theorem dX1_meanFrom_21 : decode cX1_meanFrom 21 = .ok (.iaload, 1) := by decide +kernel
theorem dX1_meanFrom_22 : decode cX1_meanFrom 22 = .ok (.iadd, 1) := by decide +kernel
theorem dX1_meanFrom_23 : decode cX1_meanFrom 23 = .ok (.laload, 1) := by decide +kernel
theorem dX1_meanFrom_24 : decode cX1_meanFrom 24 = .ok (.ladd, 1) := by decide +kernel
theorem dX1_meanFrom_25 : decode cX1_meanFrom 25 = .ok (.aload_n 0, 1) := by decide +kernel
theorem dX1_meanFrom_26 : decode cX1_meanFrom 26 = .ok (.getfield 15, 3) := by decide +kernel
theorem dX1_meanFrom_29 : decode cX1_meanFrom 29 = .ok (.iload_n 2, 1) := by decide +kernel
theorem dX1_meanFrom_30 : decode cX1_meanFrom 30 = .ok (.iconst 2, 1) := by decide +kernel
theorem dX1_meanFrom_31 : decode cX1_meanFrom 31 = .ok (.getstatic 54, 3) := by decide +kernel
theorem dX1_meanFrom_34 : decode cX1_meanFrom 34 = .ok (.iload_n 1, 1) := by decide +kernel
theorem dX1_meanFrom_35 : decode cX1_meanFrom 35 = .ok (.iaload, 1) := by decide +kernel
theorem dX1_meanFrom_36 : decode cX1_meanFrom 36 = .ok (.imul, 1) := by decide +kernel
theorem dX1_meanFrom_37 : decode cX1_meanFrom 37 = .ok (.iadd, 1) := by decide +kernel
theorem dX1_meanFrom_38 : decode cX1_meanFrom 38 = .ok (.laload, 1) := by decide +kernel
theorem dX1_meanFrom_39 : decode cX1_meanFrom 39 = .ok (.ladd, 1) := by decide +kernel
theorem dX1_meanFrom_40 : decode cX1_meanFrom 40 = .ok (.lreturn, 1) := by decide +kernel
theorem dX1_worstFrom_0 : decode cX1_worstFrom 0 = .ok (.aload_n 0, 1) := by decide +kernel
theorem dX1_worstFrom_1 : decode cX1_worstFrom 1 = .ok (.getfield 22, 3) := by decide +kernel
theorem dX1_worstFrom_4 : decode cX1_worstFrom 4 = .ok (.getfield 92, 3) := by decide +kernel
theorem dX1_worstFrom_7 : decode cX1_worstFrom 7 = .ok (.iload_n 1, 1) := by decide +kernel
theorem dX1_worstFrom_8 : decode cX1_worstFrom 8 = .ok (.iaload, 1) := by decide +kernel
theorem dX1_worstFrom_9 : decode cX1_worstFrom 9 = .ok (.aload_n 0, 1) := by decide +kernel
theorem dX1_worstFrom_10 : decode cX1_worstFrom 10 = .ok (.getfield 19, 3) := by decide +kernel
theorem dX1_worstFrom_13 : decode cX1_worstFrom 13 = .ok (.iload_n 2, 1) := by decide +kernel
theorem dX1_worstFrom_14 : decode cX1_worstFrom 14 = .ok (.getstatic 54, 3) := by decide +kernel
theorem dX1_worstFrom_17 : decode cX1_worstFrom 17 = .ok (.iload_n 1, 1) := by decide +kernel
theorem dX1_worstFrom_18 : decode cX1_worstFrom 18 = .ok (.iaload, 1) := by decide +kernel
theorem dX1_worstFrom_19 : decode cX1_worstFrom 19 = .ok (.iadd, 1) := by decide +kernel
theorem dX1_worstFrom_20 : decode cX1_worstFrom 20 = .ok (.iaload, 1) := by decide +kernel
theorem dX1_worstFrom_21 : decode cX1_worstFrom 21 = .ok (.aload_n 0, 1) := by decide +kernel
theorem dX1_worstFrom_22 : decode cX1_worstFrom 22 = .ok (.getfield 19, 3) := by decide +kernel
theorem dX1_worstFrom_25 : decode cX1_worstFrom 25 = .ok (.iload_n 2, 1) := by decide +kernel
theorem dX1_worstFrom_26 : decode cX1_worstFrom 26 = .ok (.iconst 2, 1) := by decide +kernel
theorem dX1_worstFrom_27 : decode cX1_worstFrom 27 = .ok (.getstatic 54, 3) := by decide +kernel
theorem dX1_worstFrom_30 : decode cX1_worstFrom 30 = .ok (.iload_n 1, 1) := by decide +kernel
theorem dX1_worstFrom_31 : decode cX1_worstFrom 31 = .ok (.iaload, 1) := by decide +kernel
theorem dX1_worstFrom_32 : decode cX1_worstFrom 32 = .ok (.imul, 1) := by decide +kernel
theorem dX1_worstFrom_33 : decode cX1_worstFrom 33 = .ok (.iadd, 1) := by decide +kernel
theorem dX1_worstFrom_34 : decode cX1_worstFrom 34 = .ok (.iaload, 1) := by decide +kernel
theorem dX1_worstFrom_35 : decode cX1_worstFrom 35 = .ok (.invokestatic 95, 3) := by decide +kernel
theorem dX1_worstFrom_38 : decode cX1_worstFrom 38 = .ok (.iadd, 1) := by decide +kernel
theorem dX1_worstFrom_39 : decode cX1_worstFrom 39 = .ok (.ireturn, 1) := by decide +kernel
theorem dX1_stateOf_0 : decode cX1_stateOf 0 = .ok (.iconst 0, 1) := by decide +kernel
theorem dX1_stateOf_1 : decode cX1_stateOf 1 = .ok (.istore_n 3, 1) := by decide +kernel
theorem dX1_stateOf_2 : decode cX1_stateOf 2 = .ok (.iconst 0, 1) := by decide +kernel
theorem dX1_stateOf_3 : decode cX1_stateOf 3 = .ok (.istore 4, 2) := by decide +kernel
theorem dX1_stateOf_5 : decode cX1_stateOf 5 = .ok (.iload 4, 2) := by decide +kernel
theorem dX1_stateOf_7 : decode cX1_stateOf 7 = .ok (.aload_n 0, 1) := by decide +kernel
theorem dX1_stateOf_8 : decode cX1_stateOf 8 = .ok (.getfield 22, 3) := by decide +kernel
theorem dX1_stateOf_11 : decode cX1_stateOf 11 = .ok (.getfield 57, 3) := by decide +kernel
theorem dX1_stateOf_14 : decode cX1_stateOf 14 = .ok (.if_icmp .ge 49, 3) := by decide +kernel
theorem dX1_stateOf_17 : decode cX1_stateOf 17 = .ok (.iload_n 1, 1) := by decide +kernel
theorem dX1_stateOf_18 : decode cX1_stateOf 18 = .ok (.iload 4, 2) := by decide +kernel
theorem dX1_stateOf_20 : decode cX1_stateOf 20 = .ok (.ishr, 1) := by decide +kernel
theorem dX1_stateOf_21 : decode cX1_stateOf 21 = .ok (.iconst 1, 1) := by decide +kernel
theorem dX1_stateOf_22 : decode cX1_stateOf 22 = .ok (.iand, 1) := by decide +kernel
theorem dX1_stateOf_23 : decode cX1_stateOf 23 = .ok (.iconst 1, 1) := by decide +kernel
theorem dX1_stateOf_24 : decode cX1_stateOf 24 = .ok (.if_icmp .ne 33, 3) := by decide +kernel
theorem dX1_stateOf_27 : decode cX1_stateOf 27 = .ok (.iload_n 3, 1) := by decide +kernel
theorem dX1_stateOf_28 : decode cX1_stateOf 28 = .ok (.iload_n 2, 1) := by decide +kernel
theorem dX1_stateOf_29 : decode cX1_stateOf 29 = .ok (.iload 4, 2) := by decide +kernel
theorem dX1_stateOf_31 : decode cX1_stateOf 31 = .ok (.ishr, 1) := by decide +kernel
theorem dX1_stateOf_32 : decode cX1_stateOf 32 = .ok (.iconst 1, 1) := by decide +kernel
theorem dX1_stateOf_33 : decode cX1_stateOf 33 = .ok (.iand, 1) := by decide +kernel
theorem dX1_stateOf_34 : decode cX1_stateOf 34 = .ok (.iconst 1, 1) := by decide +kernel
theorem dX1_stateOf_35 : decode cX1_stateOf 35 = .ok (.if_icmp .ne 14, 3) := by decide +kernel
theorem dX1_stateOf_38 : decode cX1_stateOf 38 = .ok (.iconst 2, 1) := by decide +kernel
theorem dX1_stateOf_39 : decode cX1_stateOf 39 = .ok (.getstatic 54, 3) := by decide +kernel
theorem dX1_stateOf_42 : decode cX1_stateOf 42 = .ok (.iload 4, 2) := by decide +kernel
theorem dX1_stateOf_44 : decode cX1_stateOf 44 = .ok (.iaload, 1) := by decide +kernel
theorem dX1_stateOf_45 : decode cX1_stateOf 45 = .ok (.imul, 1) := by decide +kernel
theorem dX1_stateOf_46 : decode cX1_stateOf 46 = .ok (.goto 9, 3) := by decide +kernel
theorem dX1_stateOf_49 : decode cX1_stateOf 49 = .ok (.getstatic 54, 3) := by decide +kernel
theorem dX1_stateOf_52 : decode cX1_stateOf 52 = .ok (.iload 4, 2) := by decide +kernel
theorem dX1_stateOf_54 : decode cX1_stateOf 54 = .ok (.iaload, 1) := by decide +kernel
theorem dX1_stateOf_55 : decode cX1_stateOf 55 = .ok (.iadd, 1) := by decide +kernel
theorem dX1_stateOf_56 : decode cX1_stateOf 56 = .ok (.istore_n 3, 1) := by decide +kernel
theorem dX1_stateOf_57 : decode cX1_stateOf 57 = .ok (.iinc 4 1, 3) := by decide +kernel
theorem dX1_stateOf_60 : decode cX1_stateOf 60 = .ok (.goto (-55), 3) := by decide +kernel
theorem dX1_stateOf_63 : decode cX1_stateOf 63 = .ok (.iload_n 3, 1) := by decide +kernel
theorem dX1_stateOf_64 : decode cX1_stateOf 64 = .ok (.ireturn, 1) := by decide +kernel
set_option maxRecDepth 20000 in
theorem ggX1_prepare_X3_verdict : GoodIn wsX1_prepare wsX3_verdict := goodIn_r _ [13, 14, 15, 16, 12, 17, 18, 19, 20, 21, 22, 23, 54, 55, 56, 57, 58] rfl (by decide +kernel)
set_option maxRecDepth 20000 in
theorem gX1_prepare_X3_verdict : GoodIn wsX1_prepare (wsV RX1 60 RX3 yX3_verdict wsX3_verdict) := goodIn_app (goodIn_of _ (by decide +kernel)) ggX1_prepare_X3_verdict
set_option maxRecDepth 20000 in
theorem ggX1_prepare_X1_fillSure : GoodIn wsX1_prepare wsX1_fillSure := goodIn_r _ [28, 4, 7, 41, 42, 43, 44, 45, 46, 47] rfl (by decide +kernel)
set_option maxRecDepth 20000 in
theorem gX1_prepare_X1_fillSure : GoodIn wsX1_prepare (wsV RX1 107 RX1 yX1_fillSure wsX1_fillSure) := goodIn_app (goodIn_of _ (by decide +kernel)) ggX1_prepare_X1_fillSure
set_option maxRecDepth 20000 in
theorem ggX1_prepare_X1_fill : GoodIn wsX1_prepare wsX1_fill := goodIn_r _ [32, 2, 8, 3, 33, 34, 35, 36, 27, 37, 4, 7, 38, 39, 40, 15, 16, 12, 17, 18, 19, 20, 21, 22, 23, 24, 25, 26, 28, 29, 30, 31, 41, 42, 43, 44, 45, 46, 47, 48, 49, 50, 51, 52, 53, 54, 55, 56, 57, 58] rfl (by decide +kernel)
set_option maxRecDepth 20000 in
theorem gX1_prepare_X1_fill : GoodIn wsX1_prepare (wsV RX1 111 RX1 yX1_fill wsX1_fill) := goodIn_app (goodIn_of _ (by decide +kernel)) ggX1_prepare_X1_fill
theorem dX1_prepare_0 : decode cX1_prepare 0 = .ok (.aload_n 0, 1) := by decide +kernel
theorem dX1_prepare_1 : decode cX1_prepare 1 = .ok (.getfield 34, 3) := by decide +kernel
theorem dX1_prepare_4 : decode cX1_prepare 4 = .ok (.ifCond .eq 4, 3) := by decide +kernel
theorem dX1_prepare_7 : decode cX1_prepare 7 = .ok (.return_, 1) := by decide +kernel
theorem dX1_prepare_8 : decode cX1_prepare 8 = .ok (.getstatic 54, 3) := by decide +kernel
theorem dX1_prepare_11 : decode cX1_prepare 11 = .ok (.aload_n 0, 1) := by decide +kernel
theorem dX1_prepare_12 : decode cX1_prepare 12 = .ok (.getfield 22, 3) := by decide +kernel
theorem dX1_prepare_15 : decode cX1_prepare 15 = .ok (.getfield 57, 3) := by decide +kernel
theorem dX1_prepare_18 : decode cX1_prepare 18 = .ok (.iaload, 1) := by decide +kernel
theorem dX1_prepare_19 : decode cX1_prepare 19 = .ok (.istore_n 1, 1) := by decide +kernel
theorem dX1_prepare_20 : decode cX1_prepare 20 = .ok (.aload_n 0, 1) := by decide +kernel
theorem dX1_prepare_21 : decode cX1_prepare 21 = .ok (.getfield 15, 3) := by decide +kernel
theorem dX1_prepare_24 : decode cX1_prepare 24 = .ok (.arraylength, 1) := by decide +kernel
theorem dX1_prepare_25 : decode cX1_prepare 25 = .ok (.iload_n 1, 1) := by decide +kernel
theorem dX1_prepare_26 : decode cX1_prepare 26 = .ok (.if_icmp .ge 17, 3) := by decide +kernel
theorem dX1_prepare_29 : decode cX1_prepare 29 = .ok (.aload_n 0, 1) := by decide +kernel
theorem dX1_prepare_30 : decode cX1_prepare 30 = .ok (.iload_n 1, 1) := by decide +kernel
theorem dX1_prepare_31 : decode cX1_prepare 31 = .ok (.newarray .long, 2) := by decide +kernel
theorem dX1_prepare_33 : decode cX1_prepare 33 = .ok (.putfield 15, 3) := by decide +kernel
theorem dX1_prepare_36 : decode cX1_prepare 36 = .ok (.aload_n 0, 1) := by decide +kernel
theorem dX1_prepare_37 : decode cX1_prepare 37 = .ok (.iload_n 1, 1) := by decide +kernel
theorem dX1_prepare_38 : decode cX1_prepare 38 = .ok (.newarray .int, 2) := by decide +kernel
theorem dX1_prepare_40 : decode cX1_prepare 40 = .ok (.putfield 19, 3) := by decide +kernel
theorem dX1_prepare_43 : decode cX1_prepare 43 = .ok (.iconst 1, 1) := by decide +kernel
theorem dX1_prepare_44 : decode cX1_prepare 44 = .ok (.aload_n 0, 1) := by decide +kernel
theorem dX1_prepare_45 : decode cX1_prepare 45 = .ok (.getfield 22, 3) := by decide +kernel
theorem dX1_prepare_48 : decode cX1_prepare 48 = .ok (.getfield 57, 3) := by decide +kernel
theorem dX1_prepare_51 : decode cX1_prepare 51 = .ok (.ishl, 1) := by decide +kernel
theorem dX1_prepare_52 : decode cX1_prepare 52 = .ok (.iconst 1, 1) := by decide +kernel
theorem dX1_prepare_53 : decode cX1_prepare 53 = .ok (.isub, 1) := by decide +kernel
theorem dX1_prepare_54 : decode cX1_prepare 54 = .ok (.istore_n 2, 1) := by decide +kernel
theorem dX1_prepare_55 : decode cX1_prepare 55 = .ok (.aload_n 0, 1) := by decide +kernel
theorem dX1_prepare_56 : decode cX1_prepare 56 = .ok (.getfield 26, 3) := by decide +kernel
theorem dX1_prepare_59 : decode cX1_prepare 59 = .ok (.iconst 0, 1) := by decide +kernel
theorem dX1_prepare_60 : decode cX1_prepare 60 = .ok (.iload_n 2, 1) := by decide +kernel
theorem dX1_prepare_61 : decode cX1_prepare 61 = .ok (.invokevirtual 60, 3) := by decide +kernel
theorem dX1_prepare_64 : decode cX1_prepare 64 = .ok (.iconst (-1), 1) := by decide +kernel
theorem dX1_prepare_65 : decode cX1_prepare 65 = .ok (.if_icmp .eq 12, 3) := by decide +kernel
theorem dX1_prepare_68 : decode cX1_prepare 68 = .ok (.aload_n 0, 1) := by decide +kernel
theorem dX1_prepare_69 : decode cX1_prepare 69 = .ok (.iconst 0, 1) := by decide +kernel
theorem dX1_prepare_70 : decode cX1_prepare 70 = .ok (.iload_n 1, 1) := by decide +kernel
theorem dX1_prepare_71 : decode cX1_prepare 71 = .ok (.invokevirtual 107, 3) := by decide +kernel
theorem dX1_prepare_74 : decode cX1_prepare 74 = .ok (.goto 21, 3) := by decide +kernel
theorem dX1_prepare_77 : decode cX1_prepare 77 = .ok (.aload_n 0, 1) := by decide +kernel
theorem dX1_prepare_78 : decode cX1_prepare 78 = .ok (.aload_n 0, 1) := by decide +kernel
theorem dX1_prepare_79 : decode cX1_prepare 79 = .ok (.getfield 22, 3) := by decide +kernel
theorem dX1_prepare_82 : decode cX1_prepare 82 = .ok (.getfield 57, 3) := by decide +kernel
theorem dX1_prepare_85 : decode cX1_prepare 85 = .ok (.iconst 1, 1) := by decide +kernel
theorem dX1_prepare_86 : decode cX1_prepare 86 = .ok (.isub, 1) := by decide +kernel
theorem dX1_prepare_87 : decode cX1_prepare 87 = .ok (.iconst 0, 1) := by decide +kernel
theorem dX1_prepare_88 : decode cX1_prepare 88 = .ok (.iconst 0, 1) := by decide +kernel
theorem dX1_prepare_89 : decode cX1_prepare 89 = .ok (.iload_n 2, 1) := by decide +kernel
theorem dX1_prepare_90 : decode cX1_prepare 90 = .ok (.lconst 1, 1) := by decide +kernel
theorem dX1_prepare_91 : decode cX1_prepare 91 = .ok (.iconst 0, 1) := by decide +kernel
theorem dX1_prepare_92 : decode cX1_prepare 92 = .ok (.invokevirtual 111, 3) := by decide +kernel
theorem dX1_prepare_95 : decode cX1_prepare 95 = .ok (.aload_n 0, 1) := by decide +kernel
theorem dX1_prepare_96 : decode cX1_prepare 96 = .ok (.iconst 1, 1) := by decide +kernel
theorem dX1_prepare_97 : decode cX1_prepare 97 = .ok (.putfield 34, 3) := by decide +kernel
theorem dX1_prepare_100 : decode cX1_prepare 100 = .ok (.return_, 1) := by decide +kernel
set_option maxRecDepth 20000 in
theorem ggX1_fill_X1_settle : GoodIn wsX1_fill wsX1_settle := goodIn_r _ [9, 10, 11, 3, 12, 13, 4, 1, 32, 33, 34, 35, 36, 37, 38, 39, 40, 41, 42, 43, 44] rfl (by decide +kernel)
set_option maxRecDepth 20000 in
theorem gX1_fill_X1_settle : GoodIn wsX1_fill (wsV RX1 115 RX1 yX1_settle wsX1_settle) := goodIn_app (goodIn_of _ (by decide +kernel)) ggX1_fill_X1_settle
set_option maxRecDepth 20000 in
theorem ggX1_fill_X3_isSystemGood : GoodIn wsX1_fill wsX3_isSystemGood := goodIn_r _ [18, 19, 20, 21, 22, 17, 23, 24, 45, 46, 47, 48, 49] rfl (by decide +kernel)
set_option maxRecDepth 20000 in
theorem gX1_fill_X3_isSystemGood : GoodIn wsX1_fill (wsV RX1 119 RX3 yX3_isSystemGood wsX3_isSystemGood) := goodIn_app (goodIn_of _ (by decide +kernel)) ggX1_fill_X3_isSystemGood
set_option maxRecDepth 20000 in
theorem ggX1_fill_X1_fillSure : GoodIn wsX1_fill wsX1_fillSure := goodIn_r _ [28, 10, 11, 32, 33, 34, 35, 36, 37, 38] rfl (by decide +kernel)
set_option maxRecDepth 20000 in
theorem gX1_fill_X1_fillSure : GoodIn wsX1_fill (wsV RX1 107 RX1 yX1_fillSure wsX1_fillSure) := goodIn_app (goodIn_of _ (by decide +kernel)) ggX1_fill_X1_fillSure
set_option maxRecDepth 20000 in
theorem ggX1_fill_X1_fill : GoodIn wsX1_fill wsX1_fill := goodIn_r _ [0, 1, 2, 3, 4, 5, 6, 7, 8, 9, 10, 11, 12, 13, 14, 15, 16, 17, 18, 19, 20, 21, 22, 23, 24, 25, 26, 27, 28, 29, 30, 31, 32, 33, 34, 35, 36, 37, 38, 39, 40, 41, 42, 43, 44, 45, 46, 47, 48, 49] rfl (by decide +kernel)
set_option maxRecDepth 20000 in
theorem gX1_fill_X1_fill : GoodIn wsX1_fill (wsV RX1 111 RX1 yX1_fill wsX1_fill) := goodIn_app (goodIn_of _ (by decide +kernel)) ggX1_fill_X1_fill
theorem dX1_fill_0 : decode cX1_fill 0 = .ok (.iload_n 1, 1) := by decide +kernel
theorem dX1_fill_1 : decode cX1_fill 1 = .ok (.ifCond .ge 13, 3) := by decide +kernel
theorem dX1_fill_4 : decode cX1_fill 4 = .ok (.aload_n 0, 1) := by decide +kernel
theorem dX1_fill_5 : decode cX1_fill 5 = .ok (.iload_n 2, 1) := by decide +kernel
theorem dX1_fill_6 : decode cX1_fill 6 = .ok (.lload 5, 2) := by decide +kernel
theorem dX1_fill_8 : decode cX1_fill 8 = .ok (.iload 7, 2) := by decide +kernel
theorem dX1_fill_10 : decode cX1_fill 10 = .ok (.invokevirtual 115, 3) := by decide +kernel
theorem dX1_fill_13 : decode cX1_fill 13 = .ok (.return_, 1) := by decide +kernel
theorem dX1_fill_14 : decode cX1_fill 14 = .ok (.getstatic 54, 3) := by decide +kernel
theorem dX1_fill_17 : decode cX1_fill 17 = .ok (.iload_n 1, 1) := by decide +kernel
theorem dX1_fill_18 : decode cX1_fill 18 = .ok (.iaload, 1) := by decide +kernel
theorem dX1_fill_19 : decode cX1_fill 19 = .ok (.istore 8, 2) := by decide +kernel
theorem dX1_fill_21 : decode cX1_fill 21 = .ok (.iload_n 3, 1) := by decide +kernel
theorem dX1_fill_22 : decode cX1_fill 22 = .ok (.iconst 1, 1) := by decide +kernel
theorem dX1_fill_23 : decode cX1_fill 23 = .ok (.iload_n 1, 1) := by decide +kernel
theorem dX1_fill_24 : decode cX1_fill 24 = .ok (.ishl, 1) := by decide +kernel
theorem dX1_fill_25 : decode cX1_fill 25 = .ok (.ior, 1) := by decide +kernel
theorem dX1_fill_26 : decode cX1_fill 26 = .ok (.istore 9, 2) := by decide +kernel
theorem dX1_fill_28 : decode cX1_fill 28 = .ok (.aload_n 0, 1) := by decide +kernel
theorem dX1_fill_29 : decode cX1_fill 29 = .ok (.getfield 26, 3) := by decide +kernel
theorem dX1_fill_32 : decode cX1_fill 32 = .ok (.iload 9, 2) := by decide +kernel
theorem dX1_fill_34 : decode cX1_fill 34 = .ok (.invokevirtual 119, 3) := by decide +kernel
theorem dX1_fill_37 : decode cX1_fill 37 = .ok (.ifCond .eq 22, 3) := by decide +kernel
theorem dX1_fill_40 : decode cX1_fill 40 = .ok (.aload_n 0, 1) := by decide +kernel
theorem dX1_fill_41 : decode cX1_fill 41 = .ok (.iload_n 2, 1) := by decide +kernel
theorem dX1_fill_42 : decode cX1_fill 42 = .ok (.iconst 2, 1) := by decide +kernel
theorem dX1_fill_43 : decode cX1_fill 43 = .ok (.iload 8, 2) := by decide +kernel
theorem dX1_fill_45 : decode cX1_fill 45 = .ok (.imul, 1) := by decide +kernel
theorem dX1_fill_46 : decode cX1_fill 46 = .ok (.iadd, 1) := by decide +kernel
theorem dX1_fill_47 : decode cX1_fill 47 = .ok (.iload_n 2, 1) := by decide +kernel
theorem dX1_fill_48 : decode cX1_fill 48 = .ok (.iconst 3, 1) := by decide +kernel
theorem dX1_fill_49 : decode cX1_fill 49 = .ok (.iload 8, 2) := by decide +kernel
theorem dX1_fill_51 : decode cX1_fill 51 = .ok (.imul, 1) := by decide +kernel
theorem dX1_fill_52 : decode cX1_fill 52 = .ok (.iadd, 1) := by decide +kernel
theorem dX1_fill_53 : decode cX1_fill 53 = .ok (.invokevirtual 107, 3) := by decide +kernel
theorem dX1_fill_56 : decode cX1_fill 56 = .ok (.goto 35, 3) := by decide +kernel
theorem dX1_fill_59 : decode cX1_fill 59 = .ok (.aload_n 0, 1) := by decide +kernel
theorem dX1_fill_60 : decode cX1_fill 60 = .ok (.iload_n 1, 1) := by decide +kernel
theorem dX1_fill_61 : decode cX1_fill 61 = .ok (.iconst 1, 1) := by decide +kernel
theorem dX1_fill_62 : decode cX1_fill 62 = .ok (.isub, 1) := by decide +kernel
theorem dX1_fill_63 : decode cX1_fill 63 = .ok (.iload_n 2, 1) := by decide +kernel
theorem dX1_fill_64 : decode cX1_fill 64 = .ok (.iconst 2, 1) := by decide +kernel
theorem dX1_fill_65 : decode cX1_fill 65 = .ok (.iload 8, 2) := by decide +kernel
theorem dX1_fill_67 : decode cX1_fill 67 = .ok (.imul, 1) := by decide +kernel
theorem dX1_fill_68 : decode cX1_fill 68 = .ok (.iadd, 1) := by decide +kernel
theorem dX1_fill_69 : decode cX1_fill 69 = .ok (.iload 9, 2) := by decide +kernel
theorem dX1_fill_71 : decode cX1_fill 71 = .ok (.iload 4, 2) := by decide +kernel
theorem dX1_fill_73 : decode cX1_fill 73 = .ok (.lload 5, 2) := by decide +kernel
theorem dX1_fill_75 : decode cX1_fill 75 = .ok (.aload_n 0, 1) := by decide +kernel
theorem dX1_fill_76 : decode cX1_fill 76 = .ok (.getfield 22, 3) := by decide +kernel
theorem dX1_fill_79 : decode cX1_fill 79 = .ok (.getfield 123, 3) := by decide +kernel
theorem dX1_fill_82 : decode cX1_fill 82 = .ok (.iload_n 1, 1) := by decide +kernel
theorem dX1_fill_83 : decode cX1_fill 83 = .ok (.iaload, 1) := by decide +kernel
theorem dX1_fill_84 : decode cX1_fill 84 = .ok (.i2l, 1) := by decide +kernel
theorem dX1_fill_85 : decode cX1_fill 85 = .ok (.lmul, 1) := by decide +kernel
theorem dX1_fill_86 : decode cX1_fill 86 = .ok (.iload 7, 2) := by decide +kernel
theorem dX1_fill_88 : decode cX1_fill 88 = .ok (.invokevirtual 111, 3) := by decide +kernel
theorem dX1_fill_91 : decode cX1_fill 91 = .ok (.iload 4, 2) := by decide +kernel
theorem dX1_fill_93 : decode cX1_fill 93 = .ok (.iconst 1, 1) := by decide +kernel
theorem dX1_fill_94 : decode cX1_fill 94 = .ok (.iload_n 1, 1) := by decide +kernel
theorem dX1_fill_95 : decode cX1_fill 95 = .ok (.ishl, 1) := by decide +kernel
theorem dX1_fill_96 : decode cX1_fill 96 = .ok (.iconst (-1), 1) := by decide +kernel
theorem dX1_fill_97 : decode cX1_fill 97 = .ok (.ixor, 1) := by decide +kernel
theorem dX1_fill_98 : decode cX1_fill 98 = .ok (.iand, 1) := by decide +kernel
theorem dX1_fill_99 : decode cX1_fill 99 = .ok (.istore 10, 2) := by decide +kernel
theorem dX1_fill_101 : decode cX1_fill 101 = .ok (.aload_n 0, 1) := by decide +kernel
theorem dX1_fill_102 : decode cX1_fill 102 = .ok (.getfield 26, 3) := by decide +kernel
theorem dX1_fill_105 : decode cX1_fill 105 = .ok (.iload 10, 2) := by decide +kernel
theorem dX1_fill_107 : decode cX1_fill 107 = .ok (.invokevirtual 119, 3) := by decide +kernel
theorem dX1_fill_110 : decode cX1_fill 110 = .ok (.ifCond .eq 35, 3) := by decide +kernel
theorem dX1_fill_113 : decode cX1_fill 113 = .ok (.aload_n 0, 1) := by decide +kernel
theorem dX1_fill_114 : decode cX1_fill 114 = .ok (.iload_n 1, 1) := by decide +kernel
theorem dX1_fill_115 : decode cX1_fill 115 = .ok (.iconst 1, 1) := by decide +kernel
theorem dX1_fill_116 : decode cX1_fill 116 = .ok (.isub, 1) := by decide +kernel
theorem dX1_fill_117 : decode cX1_fill 117 = .ok (.iload_n 2, 1) := by decide +kernel
theorem dX1_fill_118 : decode cX1_fill 118 = .ok (.iload 8, 2) := by decide +kernel
theorem dX1_fill_120 : decode cX1_fill 120 = .ok (.iadd, 1) := by decide +kernel
theorem dX1_fill_121 : decode cX1_fill 121 = .ok (.iload_n 3, 1) := by decide +kernel
theorem dX1_fill_122 : decode cX1_fill 122 = .ok (.iload 10, 2) := by decide +kernel
theorem dX1_fill_124 : decode cX1_fill 124 = .ok (.lload 5, 2) := by decide +kernel
theorem dX1_fill_126 : decode cX1_fill 126 = .ok (.aload_n 0, 1) := by decide +kernel
theorem dX1_fill_127 : decode cX1_fill 127 = .ok (.getfield 22, 3) := by decide +kernel
theorem dX1_fill_130 : decode cX1_fill 130 = .ok (.getfield 126, 3) := by decide +kernel
theorem dX1_fill_133 : decode cX1_fill 133 = .ok (.iload_n 1, 1) := by decide +kernel
theorem dX1_fill_134 : decode cX1_fill 134 = .ok (.iaload, 1) := by decide +kernel
theorem dX1_fill_135 : decode cX1_fill 135 = .ok (.i2l, 1) := by decide +kernel
theorem dX1_fill_136 : decode cX1_fill 136 = .ok (.lmul, 1) := by decide +kernel
theorem dX1_fill_137 : decode cX1_fill 137 = .ok (.iload 7, 2) := by decide +kernel
theorem dX1_fill_139 : decode cX1_fill 139 = .ok (.invokevirtual 111, 3) := by decide +kernel
theorem dX1_fill_142 : decode cX1_fill 142 = .ok (.goto 17, 3) := by decide +kernel
theorem dX1_fill_145 : decode cX1_fill 145 = .ok (.aload_n 0, 1) := by decide +kernel
theorem dX1_fill_146 : decode cX1_fill 146 = .ok (.iload_n 2, 1) := by decide +kernel
theorem dX1_fill_147 : decode cX1_fill 147 = .ok (.iload 8, 2) := by decide +kernel
theorem dX1_fill_149 : decode cX1_fill 149 = .ok (.iadd, 1) := by decide +kernel
theorem dX1_fill_150 : decode cX1_fill 150 = .ok (.iload_n 2, 1) := by decide +kernel
theorem dX1_fill_151 : decode cX1_fill 151 = .ok (.iconst 2, 1) := by decide +kernel
theorem dX1_fill_152 : decode cX1_fill 152 = .ok (.iload 8, 2) := by decide +kernel
theorem dX1_fill_154 : decode cX1_fill 154 = .ok (.imul, 1) := by decide +kernel
theorem dX1_fill_155 : decode cX1_fill 155 = .ok (.iadd, 1) := by decide +kernel
theorem dX1_fill_156 : decode cX1_fill 156 = .ok (.invokevirtual 107, 3) := by decide +kernel
theorem dX1_fill_159 : decode cX1_fill 159 = .ok (.aload_n 0, 1) := by decide +kernel
theorem dX1_fill_160 : decode cX1_fill 160 = .ok (.getfield 9, 3) := by decide +kernel
theorem dX1_fill_163 : decode cX1_fill 163 = .ok (.iload 7, 2) := by decide +kernel
theorem dX1_fill_165 : decode cX1_fill 165 = .ok (.iload_n 1, 1) := by decide +kernel
theorem dX1_fill_166 : decode cX1_fill 166 = .ok (.iastore, 1) := by decide +kernel
theorem dX1_fill_167 : decode cX1_fill 167 = .ok (.aload_n 0, 1) := by decide +kernel
theorem dX1_fill_168 : decode cX1_fill 168 = .ok (.iload_n 1, 1) := by decide +kernel
theorem dX1_fill_169 : decode cX1_fill 169 = .ok (.iconst 1, 1) := by decide +kernel
theorem dX1_fill_170 : decode cX1_fill 170 = .ok (.isub, 1) := by decide +kernel
theorem dX1_fill_171 : decode cX1_fill 171 = .ok (.iload_n 2, 1) := by decide +kernel
theorem dX1_fill_172 : decode cX1_fill 172 = .ok (.iload_n 3, 1) := by decide +kernel
theorem dX1_fill_173 : decode cX1_fill 173 = .ok (.iload 4, 2) := by decide +kernel
theorem dX1_fill_175 : decode cX1_fill 175 = .ok (.lload 5, 2) := by decide +kernel
theorem dX1_fill_177 : decode cX1_fill 177 = .ok (.aload_n 0, 1) := by decide +kernel
theorem dX1_fill_178 : decode cX1_fill 178 = .ok (.getfield 22, 3) := by decide +kernel
theorem dX1_fill_181 : decode cX1_fill 181 = .ok (.getfield 123, 3) := by decide +kernel
theorem dX1_fill_184 : decode cX1_fill 184 = .ok (.iload_n 1, 1) := by decide +kernel
theorem dX1_fill_185 : decode cX1_fill 185 = .ok (.iaload, 1) := by decide +kernel
theorem dX1_fill_186 : decode cX1_fill 186 = .ok (.aload_n 0, 1) := by decide +kernel
theorem dX1_fill_187 : decode cX1_fill 187 = .ok (.getfield 22, 3) := by decide +kernel
theorem dX1_fill_190 : decode cX1_fill 190 = .ok (.getfield 126, 3) := by decide +kernel
theorem dX1_fill_193 : decode cX1_fill 193 = .ok (.iload_n 1, 1) := by decide +kernel
theorem dX1_fill_194 : decode cX1_fill 194 = .ok (.iaload, 1) := by decide +kernel
theorem dX1_fill_195 : decode cX1_fill 195 = .ok (.iadd, 1) := by decide +kernel
theorem dX1_fill_196 : decode cX1_fill 196 = .ok (.i2l, 1) := by decide +kernel
theorem dX1_fill_197 : decode cX1_fill 197 = .ok (.lmul, 1) := by decide +kernel
theorem dX1_fill_198 : decode cX1_fill 198 = .ok (.iload 7, 2) := by decide +kernel
theorem dX1_fill_200 : decode cX1_fill 200 = .ok (.iconst 1, 1) := by decide +kernel
theorem dX1_fill_201 : decode cX1_fill 201 = .ok (.iadd, 1) := by decide +kernel
theorem dX1_fill_202 : decode cX1_fill 202 = .ok (.invokevirtual 111, 3) := by decide +kernel
theorem dX1_fill_205 : decode cX1_fill 205 = .ok (.return_, 1) := by decide +kernel
theorem dX1_fillSure_0 : decode cX1_fillSure 0 = .ok (.iload_n 1, 1) := by decide +kernel
theorem dX1_fillSure_1 : decode cX1_fillSure 1 = .ok (.istore_n 3, 1) := by decide +kernel
theorem dX1_fillSure_2 : decode cX1_fillSure 2 = .ok (.iload_n 3, 1) := by decide +kernel
theorem dX1_fillSure_3 : decode cX1_fillSure 3 = .ok (.iload_n 2, 1) := by decide +kernel
theorem dX1_fillSure_4 : decode cX1_fillSure 4 = .ok (.if_icmp .ge 23, 3) := by decide +kernel
theorem dX1_fillSure_7 : decode cX1_fillSure 7 = .ok (.aload_n 0, 1) := by decide +kernel
theorem dX1_fillSure_8 : decode cX1_fillSure 8 = .ok (.getfield 15, 3) := by decide +kernel
theorem dX1_fillSure_11 : decode cX1_fillSure 11 = .ok (.iload_n 3, 1) := by decide +kernel
theorem dX1_fillSure_12 : decode cX1_fillSure 12 = .ok (.lconst 0, 1) := by decide +kernel
theorem dX1_fillSure_13 : decode cX1_fillSure 13 = .ok (.lastore, 1) := by decide +kernel
theorem dX1_fillSure_14 : decode cX1_fillSure 14 = .ok (.aload_n 0, 1) := by decide +kernel
theorem dX1_fillSure_15 : decode cX1_fillSure 15 = .ok (.getfield 19, 3) := by decide +kernel
theorem dX1_fillSure_18 : decode cX1_fillSure 18 = .ok (.iload_n 3, 1) := by decide +kernel
theorem dX1_fillSure_19 : decode cX1_fillSure 19 = .ok (.iconst 0, 1) := by decide +kernel
theorem dX1_fillSure_20 : decode cX1_fillSure 20 = .ok (.iastore, 1) := by decide +kernel
theorem dX1_fillSure_21 : decode cX1_fillSure 21 = .ok (.iinc 3 1, 3) := by decide +kernel
theorem dX1_fillSure_24 : decode cX1_fillSure 24 = .ok (.goto (-22), 3) := by decide +kernel
theorem dX1_fillSure_27 : decode cX1_fillSure 27 = .ok (.return_, 1) := by decide +kernel
theorem dX1_settle_0 : decode cX1_settle 0 = .ok (.aload_n 0, 1) := by decide +kernel
theorem dX1_settle_1 : decode cX1_settle 1 = .ok (.getfield 15, 3) := by decide +kernel
theorem dX1_settle_4 : decode cX1_settle 4 = .ok (.astore 5, 2) := by decide +kernel
theorem dX1_settle_6 : decode cX1_settle 6 = .ok (.aload_n 0, 1) := by decide +kernel
theorem dX1_settle_7 : decode cX1_settle 7 = .ok (.getfield 19, 3) := by decide +kernel
theorem dX1_settle_10 : decode cX1_settle 10 = .ok (.astore 6, 2) := by decide +kernel
theorem dX1_settle_12 : decode cX1_settle 12 = .ok (.aload_n 0, 1) := by decide +kernel
theorem dX1_settle_13 : decode cX1_settle 13 = .ok (.getfield 22, 3) := by decide +kernel
theorem dX1_settle_16 : decode cX1_settle 16 = .ok (.getfield 92, 3) := by decide +kernel
theorem dX1_settle_19 : decode cX1_settle 19 = .ok (.astore 7, 2) := by decide +kernel
theorem dX1_settle_21 : decode cX1_settle 21 = .ok (.ldc2_w 131, 3) := by decide +kernel
theorem dX1_settle_24 : decode cX1_settle 24 = .ok (.lstore 8, 2) := by decide +kernel
theorem dX1_settle_26 : decode cX1_settle 26 = .ok (.ldc 135, 2) := by decide +kernel
theorem dX1_settle_28 : decode cX1_settle 28 = .ok (.istore 10, 2) := by decide +kernel
theorem dX1_settle_30 : decode cX1_settle 30 = .ok (.iconst 0, 1) := by decide +kernel
theorem dX1_settle_31 : decode cX1_settle 31 = .ok (.istore 11, 2) := by decide +kernel
theorem dX1_settle_33 : decode cX1_settle 33 = .ok (.iload 11, 2) := by decide +kernel
theorem dX1_settle_35 : decode cX1_settle 35 = .ok (.iload 4, 2) := by decide +kernel
theorem dX1_settle_37 : decode cX1_settle 37 = .ok (.if_icmp .ge 128, 3) := by decide +kernel
theorem dX1_settle_40 : decode cX1_settle 40 = .ok (.aload_n 0, 1) := by decide +kernel
theorem dX1_settle_41 : decode cX1_settle 41 = .ok (.getfield 9, 3) := by decide +kernel
theorem dX1_settle_44 : decode cX1_settle 44 = .ok (.iload 11, 2) := by decide +kernel
theorem dX1_settle_46 : decode cX1_settle 46 = .ok (.iaload, 1) := by decide +kernel
theorem dX1_settle_47 : decode cX1_settle 47 = .ok (.istore 12, 2) := by decide +kernel
theorem dX1_settle_49 : decode cX1_settle 49 = .ok (.iload_n 1, 1) := by decide +kernel
theorem dX1_settle_50 : decode cX1_settle 50 = .ok (.getstatic 54, 3) := by decide +kernel
theorem dX1_settle_53 : decode cX1_settle 53 = .ok (.iload 12, 2) := by decide +kernel
theorem dX1_settle_55 : decode cX1_settle 55 = .ok (.iaload, 1) := by decide +kernel
theorem dX1_settle_56 : decode cX1_settle 56 = .ok (.iadd, 1) := by decide +kernel
theorem dX1_settle_57 : decode cX1_settle 57 = .ok (.istore 13, 2) := by decide +kernel
theorem dX1_settle_59 : decode cX1_settle 59 = .ok (.iload 13, 2) := by decide +kernel
theorem dX1_settle_61 : decode cX1_settle 61 = .ok (.getstatic 54, 3) := by decide +kernel
theorem dX1_settle_64 : decode cX1_settle 64 = .ok (.iload 12, 2) := by decide +kernel
theorem dX1_settle_66 : decode cX1_settle 66 = .ok (.iaload, 1) := by decide +kernel
theorem dX1_settle_67 : decode cX1_settle 67 = .ok (.iadd, 1) := by decide +kernel
theorem dX1_settle_68 : decode cX1_settle 68 = .ok (.istore 14, 2) := by decide +kernel
theorem dX1_settle_70 : decode cX1_settle 70 = .ok (.aload 7, 2) := by decide +kernel
theorem dX1_settle_72 : decode cX1_settle 72 = .ok (.iload 12, 2) := by decide +kernel
theorem dX1_settle_74 : decode cX1_settle 74 = .ok (.iaload, 1) := by decide +kernel
theorem dX1_settle_75 : decode cX1_settle 75 = .ok (.i2l, 1) := by decide +kernel
theorem dX1_settle_76 : decode cX1_settle 76 = .ok (.lload_n 2, 1) := by decide +kernel
theorem dX1_settle_77 : decode cX1_settle 77 = .ok (.lmul, 1) := by decide +kernel
theorem dX1_settle_78 : decode cX1_settle 78 = .ok (.aload 5, 2) := by decide +kernel
theorem dX1_settle_80 : decode cX1_settle 80 = .ok (.iload 13, 2) := by decide +kernel
theorem dX1_settle_82 : decode cX1_settle 82 = .ok (.laload, 1) := by decide +kernel
theorem dX1_settle_83 : decode cX1_settle 83 = .ok (.ladd, 1) := by decide +kernel
theorem dX1_settle_84 : decode cX1_settle 84 = .ok (.aload 5, 2) := by decide +kernel
theorem dX1_settle_86 : decode cX1_settle 86 = .ok (.iload 14, 2) := by decide +kernel
theorem dX1_settle_88 : decode cX1_settle 88 = .ok (.laload, 1) := by decide +kernel
theorem dX1_settle_89 : decode cX1_settle 89 = .ok (.ladd, 1) := by decide +kernel
theorem dX1_settle_90 : decode cX1_settle 90 = .ok (.lstore 15, 2) := by decide +kernel
theorem dX1_settle_92 : decode cX1_settle 92 = .ok (.aload 7, 2) := by decide +kernel
theorem dX1_settle_94 : decode cX1_settle 94 = .ok (.iload 12, 2) := by decide +kernel
theorem dX1_settle_96 : decode cX1_settle 96 = .ok (.iaload, 1) := by decide +kernel
theorem dX1_settle_97 : decode cX1_settle 97 = .ok (.aload 6, 2) := by decide +kernel
theorem dX1_settle_99 : decode cX1_settle 99 = .ok (.iload 13, 2) := by decide +kernel
theorem dX1_settle_101 : decode cX1_settle 101 = .ok (.iaload, 1) := by decide +kernel
theorem dX1_settle_102 : decode cX1_settle 102 = .ok (.aload 6, 2) := by decide +kernel
theorem dX1_settle_104 : decode cX1_settle 104 = .ok (.iload 14, 2) := by decide +kernel
theorem dX1_settle_106 : decode cX1_settle 106 = .ok (.iaload, 1) := by decide +kernel
theorem dX1_settle_107 : decode cX1_settle 107 = .ok (.if_icmp .le 11, 3) := by decide +kernel
theorem dX1_settle_110 : decode cX1_settle 110 = .ok (.aload 6, 2) := by decide +kernel
theorem dX1_settle_112 : decode cX1_settle 112 = .ok (.iload 13, 2) := by decide +kernel
theorem dX1_settle_114 : decode cX1_settle 114 = .ok (.iaload, 1) := by decide +kernel
theorem dX1_settle_115 : decode cX1_settle 115 = .ok (.goto 8, 3) := by decide +kernel
theorem dX1_settle_118 : decode cX1_settle 118 = .ok (.aload 6, 2) := by decide +kernel
theorem dX1_settle_120 : decode cX1_settle 120 = .ok (.iload 14, 2) := by decide +kernel
theorem dX1_settle_122 : decode cX1_settle 122 = .ok (.iaload, 1) := by decide +kernel
theorem dX1_settle_123 : decode cX1_settle 123 = .ok (.iadd, 1) := by decide +kernel
theorem dX1_settle_124 : decode cX1_settle 124 = .ok (.istore 17, 2) := by decide +kernel
theorem dX1_settle_126 : decode cX1_settle 126 = .ok (.lload 15, 2) := by decide +kernel
theorem dX1_settle_128 : decode cX1_settle 128 = .ok (.lload 8, 2) := by decide +kernel
theorem dX1_settle_130 : decode cX1_settle 130 = .ok (.lcmp, 1) := by decide +kernel
theorem dX1_settle_131 : decode cX1_settle 131 = .ok (.ifCond .ge 8, 3) := by decide +kernel
theorem dX1_settle_134 : decode cX1_settle 134 = .ok (.lload 15, 2) := by decide +kernel
theorem dX1_settle_136 : decode cX1_settle 136 = .ok (.goto 5, 3) := by decide +kernel
theorem dX1_settle_139 : decode cX1_settle 139 = .ok (.lload 8, 2) := by decide +kernel
theorem dX1_settle_141 : decode cX1_settle 141 = .ok (.lstore 8, 2) := by decide +kernel
theorem dX1_settle_143 : decode cX1_settle 143 = .ok (.iload 17, 2) := by decide +kernel
theorem dX1_settle_145 : decode cX1_settle 145 = .ok (.iload 10, 2) := by decide +kernel
theorem dX1_settle_147 : decode cX1_settle 147 = .ok (.if_icmp .ge 8, 3) := by decide +kernel
theorem dX1_settle_150 : decode cX1_settle 150 = .ok (.iload 17, 2) := by decide +kernel
theorem dX1_settle_152 : decode cX1_settle 152 = .ok (.goto 5, 3) := by decide +kernel
theorem dX1_settle_155 : decode cX1_settle 155 = .ok (.iload 10, 2) := by decide +kernel
theorem dX1_settle_157 : decode cX1_settle 157 = .ok (.istore 10, 2) := by decide +kernel
theorem dX1_settle_159 : decode cX1_settle 159 = .ok (.iinc 11 1, 3) := by decide +kernel
theorem dX1_settle_162 : decode cX1_settle 162 = .ok (.goto (-129), 3) := by decide +kernel
theorem dX1_settle_165 : decode cX1_settle 165 = .ok (.aload 5, 2) := by decide +kernel
theorem dX1_settle_167 : decode cX1_settle 167 = .ok (.iload_n 1, 1) := by decide +kernel
theorem dX1_settle_168 : decode cX1_settle 168 = .ok (.lload 8, 2) := by decide +kernel
theorem dX1_settle_170 : decode cX1_settle 170 = .ok (.lastore, 1) := by decide +kernel
theorem dX1_settle_171 : decode cX1_settle 171 = .ok (.aload 6, 2) := by decide +kernel
theorem dX1_settle_173 : decode cX1_settle 173 = .ok (.iload_n 1, 1) := by decide +kernel
theorem dX1_settle_174 : decode cX1_settle 174 = .ok (.iload 10, 2) := by decide +kernel
theorem dX1_settle_176 : decode cX1_settle 176 = .ok (.iastore, 1) := by decide +kernel
theorem dX1_settle_177 : decode cX1_settle 177 = .ok (.return_, 1) := by decide +kernel
theorem dX2_init_0 : decode cX2_init 0 = .ok (.aload_n 0, 1) := by decide +kernel
theorem dX2_init_1 : decode cX2_init 1 = .ok (.invokespecial 3, 3) := by decide +kernel
theorem dX2_init_4 : decode cX2_init 4 = .ok (.aload_n 0, 1) := by decide +kernel
theorem dX2_init_5 : decode cX2_init 5 = .ok (.bipush 9, 2) := by decide +kernel
theorem dX2_init_7 : decode cX2_init 7 = .ok (.newarray .int, 2) := by decide +kernel
theorem dX2_init_9 : decode cX2_init 9 = .ok (.putfield 9, 3) := by decide +kernel
theorem dX2_init_12 : decode cX2_init 12 = .ok (.return_, 1) := by decide +kernel
theorem dX2_clear_0 : decode cX2_clear 0 = .ok (.aload_n 0, 1) := by decide +kernel
theorem dX2_clear_1 : decode cX2_clear 1 = .ok (.iconst 0, 1) := by decide +kernel
theorem dX2_clear_2 : decode cX2_clear 2 = .ok (.putfield 15, 3) := by decide +kernel
theorem dX2_clear_5 : decode cX2_clear 5 = .ok (.return_, 1) := by decide +kernel
theorem dX2_holds_0 : decode cX2_holds 0 = .ok (.iconst 0, 1) := by decide +kernel
theorem dX2_holds_1 : decode cX2_holds 1 = .ok (.istore_n 2, 1) := by decide +kernel
theorem dX2_holds_2 : decode cX2_holds 2 = .ok (.iload_n 2, 1) := by decide +kernel
theorem dX2_holds_3 : decode cX2_holds 3 = .ok (.aload_n 0, 1) := by decide +kernel
theorem dX2_holds_4 : decode cX2_holds 4 = .ok (.getfield 15, 3) := by decide +kernel
theorem dX2_holds_7 : decode cX2_holds 7 = .ok (.if_icmp .ge 21, 3) := by decide +kernel
theorem dX2_holds_10 : decode cX2_holds 10 = .ok (.aload_n 0, 1) := by decide +kernel
theorem dX2_holds_11 : decode cX2_holds 11 = .ok (.getfield 9, 3) := by decide +kernel
theorem dX2_holds_14 : decode cX2_holds 14 = .ok (.iload_n 2, 1) := by decide +kernel
theorem dX2_holds_15 : decode cX2_holds 15 = .ok (.iaload, 1) := by decide +kernel
theorem dX2_holds_16 : decode cX2_holds 16 = .ok (.iload_n 1, 1) := by decide +kernel
theorem dX2_holds_17 : decode cX2_holds 17 = .ok (.if_icmp .ne 5, 3) := by decide +kernel
theorem dX2_holds_20 : decode cX2_holds 20 = .ok (.iconst 1, 1) := by decide +kernel
theorem dX2_holds_21 : decode cX2_holds 21 = .ok (.ireturn, 1) := by decide +kernel
theorem dX2_holds_22 : decode cX2_holds 22 = .ok (.iinc 2 1, 3) := by decide +kernel
theorem dX2_holds_25 : decode cX2_holds 25 = .ok (.goto (-23), 3) := by decide +kernel
theorem dX2_holds_28 : decode cX2_holds 28 = .ok (.iconst 0, 1) := by decide +kernel
theorem dX2_holds_29 : decode cX2_holds 29 = .ok (.ireturn, 1) := by decide +kernel
theorem dX2_append_0 : decode cX2_append 0 = .ok (.aload_n 0, 1) := by decide +kernel
theorem dX2_append_1 : decode cX2_append 1 = .ok (.getfield 15, 3) := by decide +kernel
theorem dX2_append_4 : decode cX2_append 4 = .ok (.bipush 9, 2) := by decide +kernel
theorem dX2_append_6 : decode cX2_append 6 = .ok (.if_icmp .ge 20, 3) := by decide +kernel
theorem dX2_append_9 : decode cX2_append 9 = .ok (.aload_n 0, 1) := by decide +kernel
theorem dX2_append_10 : decode cX2_append 10 = .ok (.getfield 9, 3) := by decide +kernel
theorem dX2_append_13 : decode cX2_append 13 = .ok (.aload_n 0, 1) := by decide +kernel
theorem dX2_append_14 : decode cX2_append 14 = .ok (.dup, 1) := by decide +kernel
theorem dX2_append_15 : decode cX2_append 15 = .ok (.getfield 15, 3) := by decide +kernel
theorem dX2_append_18 : decode cX2_append 18 = .ok (.dup_x1, 1) := by decide +kernel
theorem dX2_append_19 : decode cX2_append 19 = .ok (.iconst 1, 1) := by decide +kernel
theorem dX2_append_20 : decode cX2_append 20 = .ok (.iadd, 1) := by decide +kernel
theorem dX2_append_21 : decode cX2_append 21 = .ok (.putfield 15, 3) := by decide +kernel
theorem dX2_append_24 : decode cX2_append 24 = .ok (.iload_n 1, 1) := by decide +kernel
theorem dX2_append_25 : decode cX2_append 25 = .ok (.iastore, 1) := by decide +kernel
theorem dX2_append_26 : decode cX2_append 26 = .ok (.return_, 1) := by decide +kernel
set_option maxRecDepth 20000 in
theorem ggX2_fillByRatios_X2_isDearer : GoodIn wsX2_fillByRatios wsX2_isDearer := goodIn_r _ [6, 7, 8, 9, 10, 11, 12] rfl (by decide +kernel)
set_option maxRecDepth 20000 in
theorem gX2_fillByRatios_X2_isDearer : GoodIn wsX2_fillByRatios (va_wsS RX2 22 yX2_isDearer wsX2_isDearer) := goodIn_app (goodIn_of _ (by decide +kernel)) ggX2_fillByRatios_X2_isDearer
theorem dX2_fillByRatios_0 : decode cX2_fillByRatios 0 = .ok (.iconst 0, 1) := by decide +kernel
theorem dX2_fillByRatios_1 : decode cX2_fillByRatios 1 = .ok (.istore_n 3, 1) := by decide +kernel
theorem dX2_fillByRatios_2 : decode cX2_fillByRatios 2 = .ok (.iload_n 3, 1) := by decide +kernel
theorem dX2_fillByRatios_3 : decode cX2_fillByRatios 3 = .ok (.aload_n 1, 1) := by decide +kernel
theorem dX2_fillByRatios_4 : decode cX2_fillByRatios 4 = .ok (.getfield 19, 3) := by decide +kernel
theorem dX2_fillByRatios_7 : decode cX2_fillByRatios 7 = .ok (.if_icmp .ge 65, 3) := by decide +kernel
theorem dX2_fillByRatios_10 : decode cX2_fillByRatios 10 = .ok (.iload_n 3, 1) := by decide +kernel
theorem dX2_fillByRatios_11 : decode cX2_fillByRatios 11 = .ok (.istore 4, 2) := by decide +kernel
theorem dX2_fillByRatios_13 : decode cX2_fillByRatios 13 = .ok (.iload 4, 2) := by decide +kernel
theorem dX2_fillByRatios_15 : decode cX2_fillByRatios 15 = .ok (.ifCond .le 43, 3) := by decide +kernel
theorem dX2_fillByRatios_18 : decode cX2_fillByRatios 18 = .ok (.aload_n 1, 1) := by decide +kernel
theorem dX2_fillByRatios_19 : decode cX2_fillByRatios 19 = .ok (.iload_n 2, 1) := by decide +kernel
theorem dX2_fillByRatios_20 : decode cX2_fillByRatios 20 = .ok (.aload_n 0, 1) := by decide +kernel
theorem dX2_fillByRatios_21 : decode cX2_fillByRatios 21 = .ok (.getfield 9, 3) := by decide +kernel
theorem dX2_fillByRatios_24 : decode cX2_fillByRatios 24 = .ok (.iload 4, 2) := by decide +kernel
theorem dX2_fillByRatios_26 : decode cX2_fillByRatios 26 = .ok (.iconst 1, 1) := by decide +kernel
theorem dX2_fillByRatios_27 : decode cX2_fillByRatios 27 = .ok (.isub, 1) := by decide +kernel
theorem dX2_fillByRatios_28 : decode cX2_fillByRatios 28 = .ok (.iaload, 1) := by decide +kernel
theorem dX2_fillByRatios_29 : decode cX2_fillByRatios 29 = .ok (.iload_n 3, 1) := by decide +kernel
theorem dX2_fillByRatios_30 : decode cX2_fillByRatios 30 = .ok (.invokestatic 22, 3) := by decide +kernel
theorem dX2_fillByRatios_33 : decode cX2_fillByRatios 33 = .ok (.ifCond .eq 25, 3) := by decide +kernel
theorem dX2_fillByRatios_36 : decode cX2_fillByRatios 36 = .ok (.aload_n 0, 1) := by decide +kernel
theorem dX2_fillByRatios_37 : decode cX2_fillByRatios 37 = .ok (.getfield 9, 3) := by decide +kernel
theorem dX2_fillByRatios_40 : decode cX2_fillByRatios 40 = .ok (.iload 4, 2) := by decide +kernel
theorem dX2_fillByRatios_42 : decode cX2_fillByRatios 42 = .ok (.aload_n 0, 1) := by decide +kernel
theorem dX2_fillByRatios_43 : decode cX2_fillByRatios 43 = .ok (.getfield 9, 3) := by decide +kernel
theorem dX2_fillByRatios_46 : decode cX2_fillByRatios 46 = .ok (.iload 4, 2) := by decide +kernel
theorem dX2_fillByRatios_48 : decode cX2_fillByRatios 48 = .ok (.iconst 1, 1) := by decide +kernel
theorem dX2_fillByRatios_49 : decode cX2_fillByRatios 49 = .ok (.isub, 1) := by decide +kernel
theorem dX2_fillByRatios_50 : decode cX2_fillByRatios 50 = .ok (.iaload, 1) := by decide +kernel
theorem dX2_fillByRatios_51 : decode cX2_fillByRatios 51 = .ok (.iastore, 1) := by decide +kernel
theorem dX2_fillByRatios_52 : decode cX2_fillByRatios 52 = .ok (.iinc 4 (-1), 3) := by decide +kernel
theorem dX2_fillByRatios_55 : decode cX2_fillByRatios 55 = .ok (.goto (-42), 3) := by decide +kernel
theorem dX2_fillByRatios_58 : decode cX2_fillByRatios 58 = .ok (.aload_n 0, 1) := by decide +kernel
theorem dX2_fillByRatios_59 : decode cX2_fillByRatios 59 = .ok (.getfield 9, 3) := by decide +kernel
theorem dX2_fillByRatios_62 : decode cX2_fillByRatios 62 = .ok (.iload 4, 2) := by decide +kernel
theorem dX2_fillByRatios_64 : decode cX2_fillByRatios 64 = .ok (.iload_n 3, 1) := by decide +kernel
theorem dX2_fillByRatios_65 : decode cX2_fillByRatios 65 = .ok (.iastore, 1) := by decide +kernel
theorem dX2_fillByRatios_66 : decode cX2_fillByRatios 66 = .ok (.iinc 3 1, 3) := by decide +kernel
theorem dX2_fillByRatios_69 : decode cX2_fillByRatios 69 = .ok (.goto (-67), 3) := by decide +kernel
theorem dX2_fillByRatios_72 : decode cX2_fillByRatios 72 = .ok (.aload_n 0, 1) := by decide +kernel
theorem dX2_fillByRatios_73 : decode cX2_fillByRatios 73 = .ok (.aload_n 1, 1) := by decide +kernel
theorem dX2_fillByRatios_74 : decode cX2_fillByRatios 74 = .ok (.getfield 19, 3) := by decide +kernel
theorem dX2_fillByRatios_77 : decode cX2_fillByRatios 77 = .ok (.putfield 15, 3) := by decide +kernel
theorem dX2_fillByRatios_80 : decode cX2_fillByRatios 80 = .ok (.return_, 1) := by decide +kernel
theorem dX2_firstOutside_0 : decode cX2_firstOutside 0 = .ok (.iconst 0, 1) := by decide +kernel
theorem dX2_firstOutside_1 : decode cX2_firstOutside 1 = .ok (.istore_n 3, 1) := by decide +kernel
theorem dX2_firstOutside_2 : decode cX2_firstOutside 2 = .ok (.iload_n 3, 1) := by decide +kernel
theorem dX2_firstOutside_3 : decode cX2_firstOutside 3 = .ok (.aload_n 0, 1) := by decide +kernel
theorem dX2_firstOutside_4 : decode cX2_firstOutside 4 = .ok (.getfield 15, 3) := by decide +kernel
theorem dX2_firstOutside_7 : decode cX2_firstOutside 7 = .ok (.if_icmp .ge 29, 3) := by decide +kernel
theorem dX2_firstOutside_10 : decode cX2_firstOutside 10 = .ok (.iload_n 1, 1) := by decide +kernel
theorem dX2_firstOutside_11 : decode cX2_firstOutside 11 = .ok (.aload_n 0, 1) := by decide +kernel
theorem dX2_firstOutside_12 : decode cX2_firstOutside 12 = .ok (.getfield 9, 3) := by decide +kernel
theorem dX2_firstOutside_15 : decode cX2_firstOutside 15 = .ok (.iload_n 3, 1) := by decide +kernel
theorem dX2_firstOutside_16 : decode cX2_firstOutside 16 = .ok (.iaload, 1) := by decide +kernel
theorem dX2_firstOutside_17 : decode cX2_firstOutside 17 = .ok (.ishr, 1) := by decide +kernel
theorem dX2_firstOutside_18 : decode cX2_firstOutside 18 = .ok (.iconst 1, 1) := by decide +kernel
theorem dX2_firstOutside_19 : decode cX2_firstOutside 19 = .ok (.iand, 1) := by decide +kernel
theorem dX2_firstOutside_20 : decode cX2_firstOutside 20 = .ok (.ifCond .ne 10, 3) := by decide +kernel
theorem dX2_firstOutside_23 : decode cX2_firstOutside 23 = .ok (.aload_n 0, 1) := by decide +kernel
theorem dX2_firstOutside_24 : decode cX2_firstOutside 24 = .ok (.getfield 9, 3) := by decide +kernel
theorem dX2_firstOutside_27 : decode cX2_firstOutside 27 = .ok (.iload_n 3, 1) := by decide +kernel
theorem dX2_firstOutside_28 : decode cX2_firstOutside 28 = .ok (.iaload, 1) := by decide +kernel
theorem dX2_firstOutside_29 : decode cX2_firstOutside 29 = .ok (.ireturn, 1) := by decide +kernel
theorem dX2_firstOutside_30 : decode cX2_firstOutside 30 = .ok (.iinc 3 1, 3) := by decide +kernel
theorem dX2_firstOutside_33 : decode cX2_firstOutside 33 = .ok (.goto (-31), 3) := by decide +kernel
theorem dX2_firstOutside_36 : decode cX2_firstOutside 36 = .ok (.iconst 0, 1) := by decide +kernel
theorem dX2_firstOutside_37 : decode cX2_firstOutside 37 = .ok (.istore_n 3, 1) := by decide +kernel
theorem dX2_firstOutside_38 : decode cX2_firstOutside 38 = .ok (.iload_n 3, 1) := by decide +kernel
theorem dX2_firstOutside_39 : decode cX2_firstOutside 39 = .ok (.iload_n 2, 1) := by decide +kernel
theorem dX2_firstOutside_40 : decode cX2_firstOutside 40 = .ok (.if_icmp .ge 19, 3) := by decide +kernel
theorem dX2_firstOutside_43 : decode cX2_firstOutside 43 = .ok (.iload_n 1, 1) := by decide +kernel
theorem dX2_firstOutside_44 : decode cX2_firstOutside 44 = .ok (.iload_n 3, 1) := by decide +kernel
theorem dX2_firstOutside_45 : decode cX2_firstOutside 45 = .ok (.ishr, 1) := by decide +kernel
theorem dX2_firstOutside_46 : decode cX2_firstOutside 46 = .ok (.iconst 1, 1) := by decide +kernel
theorem dX2_firstOutside_47 : decode cX2_firstOutside 47 = .ok (.iand, 1) := by decide +kernel
theorem dX2_firstOutside_48 : decode cX2_firstOutside 48 = .ok (.ifCond .ne 5, 3) := by decide +kernel
theorem dX2_firstOutside_51 : decode cX2_firstOutside 51 = .ok (.iload_n 3, 1) := by decide +kernel
theorem dX2_firstOutside_52 : decode cX2_firstOutside 52 = .ok (.ireturn, 1) := by decide +kernel
theorem dX2_firstOutside_53 : decode cX2_firstOutside 53 = .ok (.iinc 3 1, 3) := by decide +kernel
theorem dX2_firstOutside_56 : decode cX2_firstOutside 56 = .ok (.goto (-18), 3) := by decide +kernel
theorem dX2_firstOutside_59 : decode cX2_firstOutside 59 = .ok (.iconst (-1), 1) := by decide +kernel
theorem dX2_firstOutside_60 : decode cX2_firstOutside 60 = .ok (.ireturn, 1) := by decide +kernel
theorem dX2_isDearer_0 : decode cX2_isDearer 0 = .ok (.iload_n 1, 1) := by decide +kernel
theorem dX2_isDearer_1 : decode cX2_isDearer 1 = .ok (.ifCond .eq 10, 3) := by decide +kernel
theorem dX2_isDearer_4 : decode cX2_isDearer 4 = .ok (.aload_n 0, 1) := by decide +kernel
theorem dX2_isDearer_5 : decode cX2_isDearer 5 = .ok (.getfield 26, 3) := by decide +kernel
theorem dX2_isDearer_8 : decode cX2_isDearer 8 = .ok (.goto 7, 3) := by decide +kernel
theorem dX2_isDearer_11 : decode cX2_isDearer 11 = .ok (.aload_n 0, 1) := by decide +kernel
theorem dX2_isDearer_12 : decode cX2_isDearer 12 = .ok (.getfield 29, 3) := by decide +kernel
theorem dX2_isDearer_15 : decode cX2_isDearer 15 = .ok (.astore 4, 2) := by decide +kernel
theorem dX2_isDearer_17 : decode cX2_isDearer 17 = .ok (.aload_n 0, 1) := by decide +kernel
theorem dX2_isDearer_18 : decode cX2_isDearer 18 = .ok (.getfield 32, 3) := by decide +kernel
theorem dX2_isDearer_21 : decode cX2_isDearer 21 = .ok (.iload_n 2, 1) := by decide +kernel
theorem dX2_isDearer_22 : decode cX2_isDearer 22 = .ok (.iaload, 1) := by decide +kernel
theorem dX2_isDearer_23 : decode cX2_isDearer 23 = .ok (.aload_n 0, 1) := by decide +kernel
theorem dX2_isDearer_24 : decode cX2_isDearer 24 = .ok (.getfield 26, 3) := by decide +kernel
theorem dX2_isDearer_27 : decode cX2_isDearer 27 = .ok (.iload_n 2, 1) := by decide +kernel
theorem dX2_isDearer_28 : decode cX2_isDearer 28 = .ok (.iaload, 1) := by decide +kernel
theorem dX2_isDearer_29 : decode cX2_isDearer 29 = .ok (.aload_n 0, 1) := by decide +kernel
theorem dX2_isDearer_30 : decode cX2_isDearer 30 = .ok (.getfield 29, 3) := by decide +kernel
theorem dX2_isDearer_33 : decode cX2_isDearer 33 = .ok (.iload_n 2, 1) := by decide +kernel
theorem dX2_isDearer_34 : decode cX2_isDearer 34 = .ok (.iaload, 1) := by decide +kernel
theorem dX2_isDearer_35 : decode cX2_isDearer 35 = .ok (.iadd, 1) := by decide +kernel
theorem dX2_isDearer_36 : decode cX2_isDearer 36 = .ok (.imul, 1) := by decide +kernel
theorem dX2_isDearer_37 : decode cX2_isDearer 37 = .ok (.aload 4, 2) := by decide +kernel
theorem dX2_isDearer_39 : decode cX2_isDearer 39 = .ok (.iload_n 3, 1) := by decide +kernel
theorem dX2_isDearer_40 : decode cX2_isDearer 40 = .ok (.iaload, 1) := by decide +kernel
theorem dX2_isDearer_41 : decode cX2_isDearer 41 = .ok (.imul, 1) := by decide +kernel
theorem dX2_isDearer_42 : decode cX2_isDearer 42 = .ok (.istore 5, 2) := by decide +kernel
theorem dX2_isDearer_44 : decode cX2_isDearer 44 = .ok (.aload_n 0, 1) := by decide +kernel
theorem dX2_isDearer_45 : decode cX2_isDearer 45 = .ok (.getfield 32, 3) := by decide +kernel
theorem dX2_isDearer_48 : decode cX2_isDearer 48 = .ok (.iload_n 3, 1) := by decide +kernel
theorem dX2_isDearer_49 : decode cX2_isDearer 49 = .ok (.iaload, 1) := by decide +kernel
theorem dX2_isDearer_50 : decode cX2_isDearer 50 = .ok (.aload_n 0, 1) := by decide +kernel
theorem dX2_isDearer_51 : decode cX2_isDearer 51 = .ok (.getfield 26, 3) := by decide +kernel
theorem dX2_isDearer_54 : decode cX2_isDearer 54 = .ok (.iload_n 3, 1) := by decide +kernel
theorem dX2_isDearer_55 : decode cX2_isDearer 55 = .ok (.iaload, 1) := by decide +kernel
theorem dX2_isDearer_56 : decode cX2_isDearer 56 = .ok (.aload_n 0, 1) := by decide +kernel
theorem dX2_isDearer_57 : decode cX2_isDearer 57 = .ok (.getfield 29, 3) := by decide +kernel
theorem dX2_isDearer_60 : decode cX2_isDearer 60 = .ok (.iload_n 3, 1) := by decide +kernel
theorem dX2_isDearer_61 : decode cX2_isDearer 61 = .ok (.iaload, 1) := by decide +kernel
theorem dX2_isDearer_62 : decode cX2_isDearer 62 = .ok (.iadd, 1) := by decide +kernel
theorem dX2_isDearer_63 : decode cX2_isDearer 63 = .ok (.imul, 1) := by decide +kernel
theorem dX2_isDearer_64 : decode cX2_isDearer 64 = .ok (.aload 4, 2) := by decide +kernel
theorem dX2_isDearer_66 : decode cX2_isDearer 66 = .ok (.iload_n 2, 1) := by decide +kernel
theorem dX2_isDearer_67 : decode cX2_isDearer 67 = .ok (.iaload, 1) := by decide +kernel
theorem dX2_isDearer_68 : decode cX2_isDearer 68 = .ok (.imul, 1) := by decide +kernel
theorem dX2_isDearer_69 : decode cX2_isDearer 69 = .ok (.istore 6, 2) := by decide +kernel
theorem dX2_isDearer_71 : decode cX2_isDearer 71 = .ok (.iload 5, 2) := by decide +kernel
theorem dX2_isDearer_73 : decode cX2_isDearer 73 = .ok (.iload 6, 2) := by decide +kernel
theorem dX2_isDearer_75 : decode cX2_isDearer 75 = .ok (.if_icmp .le 7, 3) := by decide +kernel
theorem dX2_isDearer_78 : decode cX2_isDearer 78 = .ok (.iconst 1, 1) := by decide +kernel
theorem dX2_isDearer_79 : decode cX2_isDearer 79 = .ok (.goto 4, 3) := by decide +kernel
theorem dX2_isDearer_82 : decode cX2_isDearer 82 = .ok (.iconst 0, 1) := by decide +kernel
theorem dX2_isDearer_83 : decode cX2_isDearer 83 = .ok (.ireturn, 1) := by decide +kernel
set_option maxRecDepth 20000 in
theorem ggX3_init_X3_begin : GoodIn wsX3_init wsX3_begin := goodIn_r _ [12, 13, 14, 15, 16, 17, 18, 19, 20] rfl (by decide +kernel)
set_option maxRecDepth 20000 in
theorem gX3_init_X3_begin : GoodIn wsX3_init (wsV RX3 19 RX3 yX3_begin wsX3_begin) := goodIn_app (goodIn_of _ (by decide +kernel)) ggX3_init_X3_begin
