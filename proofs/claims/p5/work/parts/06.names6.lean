theorem dX7_sureAt_16 : decode cX7_sureAt 16 = .ok (.aload_n 0, 1) := by decide +kernel
theorem dX7_sureAt_17 : decode cX7_sureAt 17 = .ok (.invokevirtual 76, 3) := by decide +kernel
theorem dX7_sureAt_20 : decode cX7_sureAt 20 = .ok (.iconst 1, 1) := by decide +kernel
theorem dX7_sureAt_21 : decode cX7_sureAt 21 = .ok (.isub, 1) := by decide +kernel
theorem dX7_sureAt_22 : decode cX7_sureAt 22 = .ok (.aload_n 0, 1) := by decide +kernel
theorem dX7_sureAt_23 : decode cX7_sureAt 23 = .ok (.iload_n 1, 1) := by decide +kernel
theorem dX7_sureAt_24 : decode cX7_sureAt 24 = .ok (.iconst 2, 1) := by decide +kernel
theorem dX7_sureAt_25 : decode cX7_sureAt 25 = .ok (.invokevirtual 106, 3) := by decide +kernel
theorem dX7_sureAt_28 : decode cX7_sureAt 28 = .ok (.isub, 1) := by decide +kernel
theorem dX7_sureAt_29 : decode cX7_sureAt 29 = .ok (.invokevirtual 94, 3) := by decide +kernel
theorem dX7_sureAt_32 : decode cX7_sureAt 32 = .ok (.ifCond .eq 7, 3) := by decide +kernel
theorem dX7_sureAt_35 : decode cX7_sureAt 35 = .ok (.iconst (-1), 1) := by decide +kernel
theorem dX7_sureAt_36 : decode cX7_sureAt 36 = .ok (.goto 4, 3) := by decide +kernel
theorem dX7_sureAt_39 : decode cX7_sureAt 39 = .ok (.iconst 0, 1) := by decide +kernel
theorem dX7_sureAt_40 : decode cX7_sureAt 40 = .ok (.ireturn, 1) := by decide +kernel
set_option maxRecDepth 20000 in
theorem ggX7_sure_X7_now : GoodIn wsX7_sure wsX7_now := goodIn_r _ [6, 7, 8, 9, 31, 32, 33, 34, 35, 36, 37, 38, 39, 40, 41, 42, 43, 44, 45, 46, 47] rfl (by decide +kernel)
set_option maxRecDepth 20000 in
theorem gX7_sure_X7_now : GoodIn wsX7_sure (wsV RX7 109 RX7 yX7_now wsX7_now) := goodIn_app (goodIn_of _ (by decide +kernel)) ggX7_sure_X7_now
set_option maxRecDepth 20000 in
theorem ggX7_sure_X7_sureAt : GoodIn wsX7_sure wsX7_sureAt := goodIn_r _ [13, 14, 15, 16, 5, 17, 7, 18, 19, 20, 21, 8, 22, 23, 24, 25, 26, 1, 27, 28, 29, 30, 31, 32, 33, 34, 35, 36, 37, 38, 39, 40, 41, 42, 43, 44, 45, 46, 47] rfl (by decide +kernel)
set_option maxRecDepth 20000 in
theorem gX7_sure_X7_sureAt : GoodIn wsX7_sure (wsV RX7 112 RX7 yX7_sureAt wsX7_sureAt) := goodIn_app (goodIn_of _ (by decide +kernel)) ggX7_sure_X7_sureAt
theorem dX7_sure_0 : decode cX7_sure 0 = .ok (.aload_n 0, 1) := by decide +kernel
theorem dX7_sure_1 : decode cX7_sure 1 = .ok (.getfield 27, 3) := by decide +kernel
theorem dX7_sure_4 : decode cX7_sure 4 = .ok (.ifCond .ge 8, 3) := by decide +kernel
theorem dX7_sure_7 : decode cX7_sure 7 = .ok (.bipush (-2), 2) := by decide +kernel
theorem dX7_sure_9 : decode cX7_sure 9 = .ok (.goto 11, 3) := by decide +kernel
theorem dX7_sure_12 : decode cX7_sure 12 = .ok (.aload_n 0, 1) := by decide +kernel
theorem dX7_sure_13 : decode cX7_sure 13 = .ok (.aload_n 0, 1) := by decide +kernel
theorem dX7_sure_14 : decode cX7_sure 14 = .ok (.invokevirtual 109, 3) := by decide +kernel
theorem dX7_sure_17 : decode cX7_sure 17 = .ok (.invokevirtual 112, 3) := by decide +kernel
theorem dX7_sure_20 : decode cX7_sure 20 = .ok (.ireturn, 1) := by decide +kernel
theorem dX7_weight_0 : decode cX7_weight 0 = .ok (.lconst 1, 1) := by decide +kernel
theorem dX7_weight_1 : decode cX7_weight 1 = .ok (.lstore_n 2, 1) := by decide +kernel
theorem dX7_weight_2 : decode cX7_weight 2 = .ok (.iconst 0, 1) := by decide +kernel
theorem dX7_weight_3 : decode cX7_weight 3 = .ok (.istore 4, 2) := by decide +kernel
theorem dX7_weight_5 : decode cX7_weight 5 = .ok (.iload 4, 2) := by decide +kernel
theorem dX7_weight_7 : decode cX7_weight 7 = .ok (.aload_n 0, 1) := by decide +kernel
theorem dX7_weight_8 : decode cX7_weight 8 = .ok (.getfield 7, 3) := by decide +kernel
theorem dX7_weight_11 : decode cX7_weight 11 = .ok (.if_icmp .ge 41, 3) := by decide +kernel
theorem dX7_weight_14 : decode cX7_weight 14 = .ok (.lload_n 2, 1) := by decide +kernel
theorem dX7_weight_15 : decode cX7_weight 15 = .ok (.iload_n 1, 1) := by decide +kernel
theorem dX7_weight_16 : decode cX7_weight 16 = .ok (.iload 4, 2) := by decide +kernel
theorem dX7_weight_18 : decode cX7_weight 18 = .ok (.ishr, 1) := by decide +kernel
theorem dX7_weight_19 : decode cX7_weight 19 = .ok (.iconst 1, 1) := by decide +kernel
theorem dX7_weight_20 : decode cX7_weight 20 = .ok (.iand, 1) := by decide +kernel
theorem dX7_weight_21 : decode cX7_weight 21 = .ok (.iconst 1, 1) := by decide +kernel
theorem dX7_weight_22 : decode cX7_weight 22 = .ok (.if_icmp .ne 14, 3) := by decide +kernel
theorem dX7_weight_25 : decode cX7_weight 25 = .ok (.aload_n 0, 1) := by decide +kernel
theorem dX7_weight_26 : decode cX7_weight 26 = .ok (.getfield 13, 3) := by decide +kernel
theorem dX7_weight_29 : decode cX7_weight 29 = .ok (.iload 4, 2) := by decide +kernel
theorem dX7_weight_31 : decode cX7_weight 31 = .ok (.iaload, 1) := by decide +kernel
theorem dX7_weight_32 : decode cX7_weight 32 = .ok (.i2l, 1) := by decide +kernel
theorem dX7_weight_33 : decode cX7_weight 33 = .ok (.goto 11, 3) := by decide +kernel
theorem dX7_weight_36 : decode cX7_weight 36 = .ok (.aload_n 0, 1) := by decide +kernel
theorem dX7_weight_37 : decode cX7_weight 37 = .ok (.getfield 17, 3) := by decide +kernel
theorem dX7_weight_40 : decode cX7_weight 40 = .ok (.iload 4, 2) := by decide +kernel
theorem dX7_weight_42 : decode cX7_weight 42 = .ok (.iaload, 1) := by decide +kernel
theorem dX7_weight_43 : decode cX7_weight 43 = .ok (.i2l, 1) := by decide +kernel
theorem dX7_weight_44 : decode cX7_weight 44 = .ok (.lmul, 1) := by decide +kernel
theorem dX7_weight_45 : decode cX7_weight 45 = .ok (.lstore_n 2, 1) := by decide +kernel
theorem dX7_weight_46 : decode cX7_weight 46 = .ok (.iinc 4 1, 3) := by decide +kernel
theorem dX7_weight_49 : decode cX7_weight 49 = .ok (.goto (-44), 3) := by decide +kernel
theorem dX7_weight_52 : decode cX7_weight 52 = .ok (.lload_n 2, 1) := by decide +kernel
theorem dX7_weight_53 : decode cX7_weight 53 = .ok (.lreturn, 1) := by decide +kernel
set_option maxRecDepth 20000 in
theorem ggX7_left_X7_digit : GoodIn wsX7_left wsX7_digit := goodIn_r _ [8, 9, 10, 11, 12, 13, 14, 15, 16, 17, 18, 19, 20, 21, 22, 23, 24, 25, 26] rfl (by decide +kernel)
set_option maxRecDepth 20000 in
theorem gX7_left_X7_digit : GoodIn wsX7_left (wsV RX7 102 RX7 yX7_digit wsX7_digit) := goodIn_app (goodIn_of _ (by decide +kernel)) ggX7_left_X7_digit
theorem dX7_left_0 : decode cX7_left 0 = .ok (.lconst 1, 1) := by decide +kernel
theorem dX7_left_1 : decode cX7_left 1 = .ok (.lstore_n 2, 1) := by decide +kernel
theorem dX7_left_2 : decode cX7_left 2 = .ok (.iconst 0, 1) := by decide +kernel
theorem dX7_left_3 : decode cX7_left 3 = .ok (.istore 4, 2) := by decide +kernel
theorem dX7_left_5 : decode cX7_left 5 = .ok (.iload 4, 2) := by decide +kernel
theorem dX7_left_7 : decode cX7_left 7 = .ok (.aload_n 0, 1) := by decide +kernel
theorem dX7_left_8 : decode cX7_left 8 = .ok (.getfield 7, 3) := by decide +kernel
theorem dX7_left_11 : decode cX7_left 11 = .ok (.if_icmp .ge 71, 3) := by decide +kernel
theorem dX7_left_14 : decode cX7_left 14 = .ok (.aload_n 0, 1) := by decide +kernel
theorem dX7_left_15 : decode cX7_left 15 = .ok (.iload_n 1, 1) := by decide +kernel
theorem dX7_left_16 : decode cX7_left 16 = .ok (.iload 4, 2) := by decide +kernel
theorem dX7_left_18 : decode cX7_left 18 = .ok (.invokevirtual 102, 3) := by decide +kernel
theorem dX7_left_21 : decode cX7_left 21 = .ok (.istore 5, 2) := by decide +kernel
theorem dX7_left_23 : decode cX7_left 23 = .ok (.lload_n 2, 1) := by decide +kernel
theorem dX7_left_24 : decode cX7_left 24 = .ok (.iload 5, 2) := by decide +kernel
theorem dX7_left_26 : decode cX7_left 26 = .ok (.iconst 1, 1) := by decide +kernel
theorem dX7_left_27 : decode cX7_left 27 = .ok (.if_icmp .ne 14, 3) := by decide +kernel
theorem dX7_left_30 : decode cX7_left 30 = .ok (.aload_n 0, 1) := by decide +kernel
theorem dX7_left_31 : decode cX7_left 31 = .ok (.getfield 13, 3) := by decide +kernel
theorem dX7_left_34 : decode cX7_left 34 = .ok (.iload 4, 2) := by decide +kernel
theorem dX7_left_36 : decode cX7_left 36 = .ok (.iaload, 1) := by decide +kernel
theorem dX7_left_37 : decode cX7_left 37 = .ok (.i2l, 1) := by decide +kernel
theorem dX7_left_38 : decode cX7_left 38 = .ok (.goto 36, 3) := by decide +kernel
theorem dX7_left_41 : decode cX7_left 41 = .ok (.iload 5, 2) := by decide +kernel
theorem dX7_left_43 : decode cX7_left 43 = .ok (.iconst 2, 1) := by decide +kernel
theorem dX7_left_44 : decode cX7_left 44 = .ok (.if_icmp .ne 14, 3) := by decide +kernel
theorem dX7_left_47 : decode cX7_left 47 = .ok (.aload_n 0, 1) := by decide +kernel
theorem dX7_left_48 : decode cX7_left 48 = .ok (.getfield 17, 3) := by decide +kernel
theorem dX7_left_51 : decode cX7_left 51 = .ok (.iload 4, 2) := by decide +kernel
theorem dX7_left_53 : decode cX7_left 53 = .ok (.iaload, 1) := by decide +kernel
theorem dX7_left_54 : decode cX7_left 54 = .ok (.i2l, 1) := by decide +kernel
theorem dX7_left_55 : decode cX7_left 55 = .ok (.goto 19, 3) := by decide +kernel
theorem dX7_left_58 : decode cX7_left 58 = .ok (.aload_n 0, 1) := by decide +kernel
theorem dX7_left_59 : decode cX7_left 59 = .ok (.getfield 13, 3) := by decide +kernel
theorem dX7_left_62 : decode cX7_left 62 = .ok (.iload 4, 2) := by decide +kernel
theorem dX7_left_64 : decode cX7_left 64 = .ok (.iaload, 1) := by decide +kernel
theorem dX7_left_65 : decode cX7_left 65 = .ok (.aload_n 0, 1) := by decide +kernel
theorem dX7_left_66 : decode cX7_left 66 = .ok (.getfield 17, 3) := by decide +kernel
theorem dX7_left_69 : decode cX7_left 69 = .ok (.iload 4, 2) := by decide +kernel
theorem dX7_left_71 : decode cX7_left 71 = .ok (.iaload, 1) := by decide +kernel
theorem dX7_left_72 : decode cX7_left 72 = .ok (.iadd, 1) := by decide +kernel
theorem dX7_left_73 : decode cX7_left 73 = .ok (.i2l, 1) := by decide +kernel
theorem dX7_left_74 : decode cX7_left 74 = .ok (.lmul, 1) := by decide +kernel
theorem dX7_left_75 : decode cX7_left 75 = .ok (.lstore_n 2, 1) := by decide +kernel
theorem dX7_left_76 : decode cX7_left 76 = .ok (.iinc 4 1, 3) := by decide +kernel
theorem dX7_left_79 : decode cX7_left 79 = .ok (.goto (-74), 3) := by decide +kernel
theorem dX7_left_82 : decode cX7_left 82 = .ok (.lload_n 2, 1) := by decide +kernel
theorem dX7_left_83 : decode cX7_left 83 = .ok (.lreturn, 1) := by decide +kernel
set_option maxRecDepth 20000 in
theorem ggX7_isSuch_X7_digit : GoodIn wsX7_isSuch wsX7_digit := goodIn_r _ [6, 7, 8, 9, 10, 11, 12, 13, 14, 15, 16, 17, 18, 19, 20, 21, 22, 23, 24] rfl (by decide +kernel)
set_option maxRecDepth 20000 in
theorem gX7_isSuch_X7_digit : GoodIn wsX7_isSuch (wsV RX7 102 RX7 yX7_digit wsX7_digit) := goodIn_app (goodIn_of _ (by decide +kernel)) ggX7_isSuch_X7_digit
theorem dX7_isSuch_0 : decode cX7_isSuch 0 = .ok (.iconst 1, 1) := by decide +kernel
theorem dX7_isSuch_1 : decode cX7_isSuch 1 = .ok (.istore_n 3, 1) := by decide +kernel
theorem dX7_isSuch_2 : decode cX7_isSuch 2 = .ok (.iconst 0, 1) := by decide +kernel
theorem dX7_isSuch_3 : decode cX7_isSuch 3 = .ok (.istore 4, 2) := by decide +kernel
theorem dX7_isSuch_5 : decode cX7_isSuch 5 = .ok (.iload 4, 2) := by decide +kernel
theorem dX7_isSuch_7 : decode cX7_isSuch 7 = .ok (.aload_n 0, 1) := by decide +kernel
theorem dX7_isSuch_8 : decode cX7_isSuch 8 = .ok (.getfield 7, 3) := by decide +kernel
theorem dX7_isSuch_11 : decode cX7_isSuch 11 = .ok (.if_icmp .ge 62, 3) := by decide +kernel
theorem dX7_isSuch_14 : decode cX7_isSuch 14 = .ok (.aload_n 0, 1) := by decide +kernel
theorem dX7_isSuch_15 : decode cX7_isSuch 15 = .ok (.iload_n 2, 1) := by decide +kernel
theorem dX7_isSuch_16 : decode cX7_isSuch 16 = .ok (.iload 4, 2) := by decide +kernel
theorem dX7_isSuch_18 : decode cX7_isSuch 18 = .ok (.invokevirtual 102, 3) := by decide +kernel
theorem dX7_isSuch_21 : decode cX7_isSuch 21 = .ok (.istore 5, 2) := by decide +kernel
theorem dX7_isSuch_23 : decode cX7_isSuch 23 = .ok (.iload_n 3, 1) := by decide +kernel
theorem dX7_isSuch_24 : decode cX7_isSuch 24 = .ok (.ifCond .eq 41, 3) := by decide +kernel
theorem dX7_isSuch_27 : decode cX7_isSuch 27 = .ok (.iload 5, 2) := by decide +kernel
theorem dX7_isSuch_29 : decode cX7_isSuch 29 = .ok (.ifCond .eq 32, 3) := by decide +kernel
theorem dX7_isSuch_32 : decode cX7_isSuch 32 = .ok (.iload 5, 2) := by decide +kernel
theorem dX7_isSuch_34 : decode cX7_isSuch 34 = .ok (.iconst 1, 1) := by decide +kernel
theorem dX7_isSuch_35 : decode cX7_isSuch 35 = .ok (.if_icmp .ne 7, 3) := by decide +kernel
theorem dX7_isSuch_38 : decode cX7_isSuch 38 = .ok (.iconst 1, 1) := by decide +kernel
theorem dX7_isSuch_39 : decode cX7_isSuch 39 = .ok (.goto 4, 3) := by decide +kernel
theorem dX7_isSuch_42 : decode cX7_isSuch 42 = .ok (.iconst 0, 1) := by decide +kernel
theorem dX7_isSuch_43 : decode cX7_isSuch 43 = .ok (.iload_n 1, 1) := by decide +kernel
theorem dX7_isSuch_44 : decode cX7_isSuch 44 = .ok (.iload 4, 2) := by decide +kernel
theorem dX7_isSuch_46 : decode cX7_isSuch 46 = .ok (.ishr, 1) := by decide +kernel
theorem dX7_isSuch_47 : decode cX7_isSuch 47 = .ok (.iconst 1, 1) := by decide +kernel
theorem dX7_isSuch_48 : decode cX7_isSuch 48 = .ok (.iand, 1) := by decide +kernel
theorem dX7_isSuch_49 : decode cX7_isSuch 49 = .ok (.iconst 1, 1) := by decide +kernel
theorem dX7_isSuch_50 : decode cX7_isSuch 50 = .ok (.if_icmp .ne 7, 3) := by decide +kernel
theorem dX7_isSuch_53 : decode cX7_isSuch 53 = .ok (.iconst 1, 1) := by decide +kernel
theorem dX7_isSuch_54 : decode cX7_isSuch 54 = .ok (.goto 4, 3) := by decide +kernel
theorem dX7_isSuch_57 : decode cX7_isSuch 57 = .ok (.iconst 0, 1) := by decide +kernel
theorem dX7_isSuch_58 : decode cX7_isSuch 58 = .ok (.if_icmp .ne 7, 3) := by decide +kernel
theorem dX7_isSuch_61 : decode cX7_isSuch 61 = .ok (.iconst 1, 1) := by decide +kernel
theorem dX7_isSuch_62 : decode cX7_isSuch 62 = .ok (.goto 4, 3) := by decide +kernel
theorem dX7_isSuch_65 : decode cX7_isSuch 65 = .ok (.iconst 0, 1) := by decide +kernel
theorem dX7_isSuch_66 : decode cX7_isSuch 66 = .ok (.istore_n 3, 1) := by decide +kernel
theorem dX7_isSuch_67 : decode cX7_isSuch 67 = .ok (.iinc 4 1, 3) := by decide +kernel
theorem dX7_isSuch_70 : decode cX7_isSuch 70 = .ok (.goto (-65), 3) := by decide +kernel
theorem dX7_isSuch_73 : decode cX7_isSuch 73 = .ok (.iload_n 3, 1) := by decide +kernel
theorem dX7_isSuch_74 : decode cX7_isSuch 74 = .ok (.ireturn, 1) := by decide +kernel
set_option maxRecDepth 20000 in
theorem ggX7_plans_X7_seenIn : GoodIn wsX7_plans wsX7_seenIn := goodIn_r _ [7, 1, 8, 9, 10, 6, 11, 2, 45, 46, 47, 48, 49, 50, 51, 52, 53, 54, 55, 56, 57, 58, 59, 60, 61] rfl (by decide +kernel)
set_option maxRecDepth 20000 in
theorem gX7_plans_X7_seenIn : GoodIn wsX7_plans (wsV RX7 116 RX7 yX7_seenIn wsX7_seenIn) := goodIn_app (goodIn_of _ (by decide +kernel)) ggX7_plans_X7_seenIn
set_option maxRecDepth 20000 in
theorem ggX7_plans_X7_plan : GoodIn wsX7_plans wsX7_plan := goodIn_r _ [15, 16, 17, 18, 19, 1, 2, 20, 21, 22, 23, 6, 24, 25, 26, 27, 28, 8, 9, 10, 11, 29, 30, 31, 32, 33, 34, 35, 36, 37, 38, 39, 40, 41, 42, 43, 44, 45, 46, 47, 48, 49, 50, 51, 52, 53, 54, 55, 56, 57, 58, 59, 60, 61] rfl (by decide +kernel)
set_option maxRecDepth 20000 in
theorem gX7_plans_X7_plan : GoodIn wsX7_plans (wsV RX7 119 RX7 yX7_plan wsX7_plan) := goodIn_app (goodIn_of _ (by decide +kernel)) ggX7_plans_X7_plan
theorem dX7_plans_0 : decode cX7_plans 0 = .ok (.aload_n 0, 1) := by decide +kernel
theorem dX7_plans_1 : decode cX7_plans 1 = .ok (.getfield 7, 3) := by decide +kernel
theorem dX7_plans_4 : decode cX7_plans 4 = .ok (.bipush 9, 2) := by decide +kernel
theorem dX7_plans_6 : decode cX7_plans 6 = .ok (.if_icmp .ne 9, 3) := by decide +kernel
theorem dX7_plans_9 : decode cX7_plans 9 = .ok (.sipush 19683, 3) := by decide +kernel
theorem dX7_plans_12 : decode cX7_plans 12 = .ok (.goto 12, 3) := by decide +kernel
theorem dX7_plans_15 : decode cX7_plans 15 = .ok (.aload_n 0, 1) := by decide +kernel
theorem dX7_plans_16 : decode cX7_plans 16 = .ok (.getfield 52, 3) := by decide +kernel
theorem dX7_plans_19 : decode cX7_plans 19 = .ok (.aload_n 0, 1) := by decide +kernel
theorem dX7_plans_20 : decode cX7_plans 20 = .ok (.getfield 7, 3) := by decide +kernel
theorem dX7_plans_23 : decode cX7_plans 23 = .ok (.iaload, 1) := by decide +kernel
theorem dX7_plans_24 : decode cX7_plans 24 = .ok (.istore_n 1, 1) := by decide +kernel
theorem dX7_plans_25 : decode cX7_plans 25 = .ok (.aload_n 0, 1) := by decide +kernel
theorem dX7_plans_26 : decode cX7_plans 26 = .ok (.getfield 7, 3) := by decide +kernel
theorem dX7_plans_29 : decode cX7_plans 29 = .ok (.istore_n 2, 1) := by decide +kernel
theorem dX7_plans_30 : decode cX7_plans 30 = .ok (.iload_n 2, 1) := by decide +kernel
theorem dX7_plans_31 : decode cX7_plans 31 = .ok (.ifCond .lt 36, 3) := by decide +kernel
theorem dX7_plans_34 : decode cX7_plans 34 = .ok (.iconst 0, 1) := by decide +kernel
theorem dX7_plans_35 : decode cX7_plans 35 = .ok (.istore_n 3, 1) := by decide +kernel
theorem dX7_plans_36 : decode cX7_plans 36 = .ok (.iload_n 3, 1) := by decide +kernel
theorem dX7_plans_37 : decode cX7_plans 37 = .ok (.iload_n 1, 1) := by decide +kernel
theorem dX7_plans_38 : decode cX7_plans 38 = .ok (.if_icmp .ge 23, 3) := by decide +kernel
theorem dX7_plans_41 : decode cX7_plans 41 = .ok (.aload_n 0, 1) := by decide +kernel
theorem dX7_plans_42 : decode cX7_plans 42 = .ok (.iload_n 3, 1) := by decide +kernel
theorem dX7_plans_43 : decode cX7_plans 43 = .ok (.invokevirtual 116, 3) := by decide +kernel
theorem dX7_plans_46 : decode cX7_plans 46 = .ok (.iload_n 2, 1) := by decide +kernel
theorem dX7_plans_47 : decode cX7_plans 47 = .ok (.if_icmp .ne 8, 3) := by decide +kernel
theorem dX7_plans_50 : decode cX7_plans 50 = .ok (.aload_n 0, 1) := by decide +kernel
theorem dX7_plans_51 : decode cX7_plans 51 = .ok (.iload_n 3, 1) := by decide +kernel
theorem dX7_plans_52 : decode cX7_plans 52 = .ok (.invokevirtual 119, 3) := by decide +kernel
theorem dX7_plans_55 : decode cX7_plans 55 = .ok (.iinc 3 1, 3) := by decide +kernel
theorem dX7_plans_58 : decode cX7_plans 58 = .ok (.goto (-22), 3) := by decide +kernel
theorem dX7_plans_61 : decode cX7_plans 61 = .ok (.iinc 2 (-1), 3) := by decide +kernel
theorem dX7_plans_64 : decode cX7_plans 64 = .ok (.goto (-34), 3) := by decide +kernel
theorem dX7_plans_67 : decode cX7_plans 67 = .ok (.return_, 1) := by decide +kernel
set_option maxRecDepth 20000 in
theorem ggX7_seenIn_X7_digit : GoodIn wsX7_seenIn wsX7_digit := goodIn_r _ [6, 7, 8, 9, 10, 11, 12, 13, 14, 15, 16, 17, 18, 19, 20, 21, 22, 23, 24] rfl (by decide +kernel)
set_option maxRecDepth 20000 in
theorem gX7_seenIn_X7_digit : GoodIn wsX7_seenIn (wsV RX7 102 RX7 yX7_digit wsX7_digit) := goodIn_app (goodIn_of _ (by decide +kernel)) ggX7_seenIn_X7_digit
theorem dX7_seenIn_0 : decode cX7_seenIn 0 = .ok (.iconst 0, 1) := by decide +kernel
theorem dX7_seenIn_1 : decode cX7_seenIn 1 = .ok (.istore_n 2, 1) := by decide +kernel
theorem dX7_seenIn_2 : decode cX7_seenIn 2 = .ok (.iconst 0, 1) := by decide +kernel
theorem dX7_seenIn_3 : decode cX7_seenIn 3 = .ok (.istore_n 3, 1) := by decide +kernel
theorem dX7_seenIn_4 : decode cX7_seenIn 4 = .ok (.iload_n 3, 1) := by decide +kernel
theorem dX7_seenIn_5 : decode cX7_seenIn 5 = .ok (.aload_n 0, 1) := by decide +kernel
theorem dX7_seenIn_6 : decode cX7_seenIn 6 = .ok (.getfield 7, 3) := by decide +kernel
theorem dX7_seenIn_9 : decode cX7_seenIn 9 = .ok (.if_icmp .ge 26, 3) := by decide +kernel
theorem dX7_seenIn_12 : decode cX7_seenIn 12 = .ok (.iload_n 2, 1) := by decide +kernel
theorem dX7_seenIn_13 : decode cX7_seenIn 13 = .ok (.aload_n 0, 1) := by decide +kernel
theorem dX7_seenIn_14 : decode cX7_seenIn 14 = .ok (.iload_n 1, 1) := by decide +kernel
theorem dX7_seenIn_15 : decode cX7_seenIn 15 = .ok (.iload_n 3, 1) := by decide +kernel
theorem dX7_seenIn_16 : decode cX7_seenIn 16 = .ok (.invokevirtual 102, 3) := by decide +kernel
theorem dX7_seenIn_19 : decode cX7_seenIn 19 = .ok (.ifCond .ne 7, 3) := by decide +kernel
theorem dX7_seenIn_22 : decode cX7_seenIn 22 = .ok (.iconst 0, 1) := by decide +kernel
theorem dX7_seenIn_23 : decode cX7_seenIn 23 = .ok (.goto 4, 3) := by decide +kernel
theorem dX7_seenIn_26 : decode cX7_seenIn 26 = .ok (.iconst 1, 1) := by decide +kernel
theorem dX7_seenIn_27 : decode cX7_seenIn 27 = .ok (.iadd, 1) := by decide +kernel
theorem dX7_seenIn_28 : decode cX7_seenIn 28 = .ok (.istore_n 2, 1) := by decide +kernel
theorem dX7_seenIn_29 : decode cX7_seenIn 29 = .ok (.iinc 3 1, 3) := by decide +kernel
theorem dX7_seenIn_32 : decode cX7_seenIn 32 = .ok (.goto (-28), 3) := by decide +kernel
theorem dX7_seenIn_35 : decode cX7_seenIn 35 = .ok (.iload_n 2, 1) := by decide +kernel
theorem dX7_seenIn_36 : decode cX7_seenIn 36 = .ok (.ireturn, 1) := by decide +kernel
set_option maxRecDepth 20000 in
theorem ggX7_plan_X7_sureAt : GoodIn wsX7_plan wsX7_sureAt := goodIn_r _ [12, 13, 14, 15, 11, 16, 5, 17, 18, 19, 20, 6, 21, 22, 23, 24, 25, 26, 27, 28, 29, 30, 37, 38, 39, 40, 41, 42, 43, 44, 45, 46, 47, 48, 49, 50, 51, 52, 53] rfl (by decide +kernel)
set_option maxRecDepth 20000 in
theorem gX7_plan_X7_sureAt : GoodIn wsX7_plan (wsV RX7 112 RX7 yX7_sureAt wsX7_sureAt) := goodIn_app (goodIn_of _ (by decide +kernel)) ggX7_plan_X7_sureAt
set_option maxRecDepth 20000 in
theorem ggX7_plan_X7_left : GoodIn wsX7_plan wsX7_left := goodIn_r _ [34, 5, 35, 36, 17, 18, 19, 11, 20, 6, 37, 38, 39, 40, 41, 42, 43, 44, 45, 46, 47, 48, 49, 50, 51, 52, 53] rfl (by decide +kernel)
set_option maxRecDepth 20000 in
theorem gX7_plan_X7_left : GoodIn wsX7_plan (wsV RX7 123 RX7 yX7_left wsX7_left) := goodIn_app (goodIn_of _ (by decide +kernel)) ggX7_plan_X7_left
set_option maxRecDepth 20000 in
theorem ggX7_plan_X7_digit : GoodIn wsX7_plan wsX7_digit := goodIn_r _ [20, 6, 37, 38, 39, 40, 41, 42, 43, 44, 45, 46, 47, 48, 49, 50, 51, 52, 53] rfl (by decide +kernel)
set_option maxRecDepth 20000 in
theorem gX7_plan_X7_digit : GoodIn wsX7_plan (wsV RX7 102 RX7 yX7_digit wsX7_digit) := goodIn_app (goodIn_of _ (by decide +kernel)) ggX7_plan_X7_digit
theorem dX7_plan_0 : decode cX7_plan 0 = .ok (.aload_n 0, 1) := by decide +kernel
theorem dX7_plan_1 : decode cX7_plan 1 = .ok (.getfield 39, 3) := by decide +kernel
theorem dX7_plan_4 : decode cX7_plan 4 = .ok (.iload_n 1, 1) := by decide +kernel
theorem dX7_plan_5 : decode cX7_plan 5 = .ok (.lconst 0, 1) := by decide +kernel
theorem dX7_plan_6 : decode cX7_plan 6 = .ok (.lastore, 1) := by decide +kernel
theorem dX7_plan_7 : decode cX7_plan 7 = .ok (.aload_n 0, 1) := by decide +kernel
theorem dX7_plan_8 : decode cX7_plan 8 = .ok (.getfield 46, 3) := by decide +kernel
theorem dX7_plan_11 : decode cX7_plan 11 = .ok (.iload_n 1, 1) := by decide +kernel
theorem dX7_plan_12 : decode cX7_plan 12 = .ok (.iconst 0, 1) := by decide +kernel
theorem dX7_plan_13 : decode cX7_plan 13 = .ok (.iastore, 1) := by decide +kernel
theorem dX7_plan_14 : decode cX7_plan 14 = .ok (.aload_n 0, 1) := by decide +kernel
theorem dX7_plan_15 : decode cX7_plan 15 = .ok (.getfield 43, 3) := by decide +kernel
theorem dX7_plan_18 : decode cX7_plan 18 = .ok (.iload_n 1, 1) := by decide +kernel
theorem dX7_plan_19 : decode cX7_plan 19 = .ok (.iconst (-1), 1) := by decide +kernel
theorem dX7_plan_20 : decode cX7_plan 20 = .ok (.iastore, 1) := by decide +kernel
theorem dX7_plan_21 : decode cX7_plan 21 = .ok (.aload_n 0, 1) := by decide +kernel
theorem dX7_plan_22 : decode cX7_plan 22 = .ok (.getfield 49, 3) := by decide +kernel
theorem dX7_plan_25 : decode cX7_plan 25 = .ok (.iload_n 1, 1) := by decide +kernel
theorem dX7_plan_26 : decode cX7_plan 26 = .ok (.iconst (-1), 1) := by decide +kernel
theorem dX7_plan_27 : decode cX7_plan 27 = .ok (.iastore, 1) := by decide +kernel
theorem dX7_plan_28 : decode cX7_plan 28 = .ok (.aload_n 0, 1) := by decide +kernel
theorem dX7_plan_29 : decode cX7_plan 29 = .ok (.iload_n 1, 1) := by decide +kernel
theorem dX7_plan_30 : decode cX7_plan 30 = .ok (.invokevirtual 112, 3) := by decide +kernel
theorem dX7_plan_33 : decode cX7_plan 33 = .ok (.iconst (-1), 1) := by decide +kernel
theorem dX7_plan_34 : decode cX7_plan 34 = .ok (.if_icmp .eq 4, 3) := by decide +kernel
theorem dX7_plan_37 : decode cX7_plan 37 = .ok (.return_, 1) := by decide +kernel
theorem dX7_plan_38 : decode cX7_plan 38 = .ok (.aload_n 0, 1) := by decide +kernel
theorem dX7_plan_39 : decode cX7_plan 39 = .ok (.iload_n 1, 1) := by decide +kernel
theorem dX7_plan_40 : decode cX7_plan 40 = .ok (.invokevirtual 123, 3) := by decide +kernel
theorem dX7_plan_43 : decode cX7_plan 43 = .ok (.lstore_n 2, 1) := by decide +kernel
theorem dX7_plan_44 : decode cX7_plan 44 = .ok (.iconst 0, 1) := by decide +kernel
theorem dX7_plan_45 : decode cX7_plan 45 = .ok (.istore 4, 2) := by decide +kernel
theorem dX7_plan_47 : decode cX7_plan 47 = .ok (.iload 4, 2) := by decide +kernel
theorem dX7_plan_49 : decode cX7_plan 49 = .ok (.aload_n 0, 1) := by decide +kernel
theorem dX7_plan_50 : decode cX7_plan 50 = .ok (.getfield 7, 3) := by decide +kernel
theorem dX7_plan_53 : decode cX7_plan 53 = .ok (.if_icmp .ge 192, 3) := by decide +kernel
theorem dX7_plan_56 : decode cX7_plan 56 = .ok (.aload_n 0, 1) := by decide +kernel
theorem dX7_plan_57 : decode cX7_plan 57 = .ok (.iload_n 1, 1) := by decide +kernel
theorem dX7_plan_58 : decode cX7_plan 58 = .ok (.iload 4, 2) := by decide +kernel
theorem dX7_plan_60 : decode cX7_plan 60 = .ok (.invokevirtual 102, 3) := by decide +kernel
theorem dX7_plan_63 : decode cX7_plan 63 = .ok (.ifCond .eq 6, 3) := by decide +kernel
theorem dX7_plan_66 : decode cX7_plan 66 = .ok (.goto 173, 3) := by decide +kernel
theorem dX7_plan_69 : decode cX7_plan 69 = .ok (.iload_n 1, 1) := by decide +kernel
theorem dX7_plan_70 : decode cX7_plan 70 = .ok (.aload_n 0, 1) := by decide +kernel
theorem dX7_plan_71 : decode cX7_plan 71 = .ok (.getfield 52, 3) := by decide +kernel
theorem dX7_plan_74 : decode cX7_plan 74 = .ok (.iload 4, 2) := by decide +kernel
theorem dX7_plan_76 : decode cX7_plan 76 = .ok (.iaload, 1) := by decide +kernel
theorem dX7_plan_77 : decode cX7_plan 77 = .ok (.iadd, 1) := by decide +kernel
theorem dX7_plan_78 : decode cX7_plan 78 = .ok (.istore 5, 2) := by decide +kernel
theorem dX7_plan_80 : decode cX7_plan 80 = .ok (.iload 5, 2) := by decide +kernel
theorem dX7_plan_82 : decode cX7_plan 82 = .ok (.aload_n 0, 1) := by decide +kernel
theorem dX7_plan_83 : decode cX7_plan 83 = .ok (.getfield 52, 3) := by decide +kernel
theorem dX7_plan_86 : decode cX7_plan 86 = .ok (.iload 4, 2) := by decide +kernel
theorem dX7_plan_88 : decode cX7_plan 88 = .ok (.iaload, 1) := by decide +kernel
theorem dX7_plan_89 : decode cX7_plan 89 = .ok (.iadd, 1) := by decide +kernel
theorem dX7_plan_90 : decode cX7_plan 90 = .ok (.istore 6, 2) := by decide +kernel
theorem dX7_plan_92 : decode cX7_plan 92 = .ok (.lload_n 2, 1) := by decide +kernel
theorem dX7_plan_93 : decode cX7_plan 93 = .ok (.aload_n 0, 1) := by decide +kernel
theorem dX7_plan_94 : decode cX7_plan 94 = .ok (.getfield 20, 3) := by decide +kernel
theorem dX7_plan_97 : decode cX7_plan 97 = .ok (.iload 4, 2) := by decide +kernel
theorem dX7_plan_99 : decode cX7_plan 99 = .ok (.iaload, 1) := by decide +kernel
theorem dX7_plan_100 : decode cX7_plan 100 = .ok (.i2l, 1) := by decide +kernel
theorem dX7_plan_101 : decode cX7_plan 101 = .ok (.lmul, 1) := by decide +kernel
theorem dX7_plan_102 : decode cX7_plan 102 = .ok (.aload_n 0, 1) := by decide +kernel
theorem dX7_plan_103 : decode cX7_plan 103 = .ok (.getfield 39, 3) := by decide +kernel
theorem dX7_plan_106 : decode cX7_plan 106 = .ok (.iload 5, 2) := by decide +kernel
theorem dX7_plan_108 : decode cX7_plan 108 = .ok (.laload, 1) := by decide +kernel
theorem dX7_plan_109 : decode cX7_plan 109 = .ok (.ladd, 1) := by decide +kernel
theorem dX7_plan_110 : decode cX7_plan 110 = .ok (.aload_n 0, 1) := by decide +kernel
theorem dX7_plan_111 : decode cX7_plan 111 = .ok (.getfield 39, 3) := by decide +kernel
theorem dX7_plan_114 : decode cX7_plan 114 = .ok (.iload 6, 2) := by decide +kernel
theorem dX7_plan_116 : decode cX7_plan 116 = .ok (.laload, 1) := by decide +kernel
theorem dX7_plan_117 : decode cX7_plan 117 = .ok (.ladd, 1) := by decide +kernel
theorem dX7_plan_118 : decode cX7_plan 118 = .ok (.lstore 7, 2) := by decide +kernel
theorem dX7_plan_120 : decode cX7_plan 120 = .ok (.aload_n 0, 1) := by decide +kernel
theorem dX7_plan_121 : decode cX7_plan 121 = .ok (.getfield 43, 3) := by decide +kernel
theorem dX7_plan_124 : decode cX7_plan 124 = .ok (.iload_n 1, 1) := by decide +kernel
theorem dX7_plan_125 : decode cX7_plan 125 = .ok (.iaload, 1) := by decide +kernel
theorem dX7_plan_126 : decode cX7_plan 126 = .ok (.iconst (-1), 1) := by decide +kernel
theorem dX7_plan_127 : decode cX7_plan 127 = .ok (.if_icmp .eq 15, 3) := by decide +kernel
theorem dX7_plan_130 : decode cX7_plan 130 = .ok (.lload 7, 2) := by decide +kernel
theorem dX7_plan_132 : decode cX7_plan 132 = .ok (.aload_n 0, 1) := by decide +kernel
theorem dX7_plan_133 : decode cX7_plan 133 = .ok (.getfield 39, 3) := by decide +kernel
theorem dX7_plan_136 : decode cX7_plan 136 = .ok (.iload_n 1, 1) := by decide +kernel
theorem dX7_plan_137 : decode cX7_plan 137 = .ok (.laload, 1) := by decide +kernel
theorem dX7_plan_138 : decode cX7_plan 138 = .ok (.lcmp, 1) := by decide +kernel
theorem dX7_plan_139 : decode cX7_plan 139 = .ok (.ifCond .ge 19, 3) := by decide +kernel
theorem dX7_plan_142 : decode cX7_plan 142 = .ok (.aload_n 0, 1) := by decide +kernel
theorem dX7_plan_143 : decode cX7_plan 143 = .ok (.getfield 39, 3) := by decide +kernel
theorem dX7_plan_146 : decode cX7_plan 146 = .ok (.iload_n 1, 1) := by decide +kernel
theorem dX7_plan_147 : decode cX7_plan 147 = .ok (.lload 7, 2) := by decide +kernel
theorem dX7_plan_149 : decode cX7_plan 149 = .ok (.lastore, 1) := by decide +kernel
theorem dX7_plan_150 : decode cX7_plan 150 = .ok (.aload_n 0, 1) := by decide +kernel
theorem dX7_plan_151 : decode cX7_plan 151 = .ok (.getfield 43, 3) := by decide +kernel
theorem dX7_plan_154 : decode cX7_plan 154 = .ok (.iload_n 1, 1) := by decide +kernel
theorem dX7_plan_155 : decode cX7_plan 155 = .ok (.iload 4, 2) := by decide +kernel
theorem dX7_plan_157 : decode cX7_plan 157 = .ok (.iastore, 1) := by decide +kernel
theorem dX7_plan_158 : decode cX7_plan 158 = .ok (.aload_n 0, 1) := by decide +kernel
theorem dX7_plan_159 : decode cX7_plan 159 = .ok (.getfield 20, 3) := by decide +kernel
theorem dX7_plan_162 : decode cX7_plan 162 = .ok (.iload 4, 2) := by decide +kernel
theorem dX7_plan_164 : decode cX7_plan 164 = .ok (.iaload, 1) := by decide +kernel
theorem dX7_plan_165 : decode cX7_plan 165 = .ok (.aload_n 0, 1) := by decide +kernel
theorem dX7_plan_166 : decode cX7_plan 166 = .ok (.getfield 46, 3) := by decide +kernel
theorem dX7_plan_169 : decode cX7_plan 169 = .ok (.iload 5, 2) := by decide +kernel
theorem dX7_plan_171 : decode cX7_plan 171 = .ok (.iaload, 1) := by decide +kernel
theorem dX7_plan_172 : decode cX7_plan 172 = .ok (.aload_n 0, 1) := by decide +kernel
theorem dX7_plan_173 : decode cX7_plan 173 = .ok (.getfield 46, 3) := by decide +kernel
theorem dX7_plan_176 : decode cX7_plan 176 = .ok (.iload 6, 2) := by decide +kernel
theorem dX7_plan_178 : decode cX7_plan 178 = .ok (.iaload, 1) := by decide +kernel
theorem dX7_plan_179 : decode cX7_plan 179 = .ok (.if_icmp .le 13, 3) := by decide +kernel
theorem dX7_plan_182 : decode cX7_plan 182 = .ok (.aload_n 0, 1) := by decide +kernel
theorem dX7_plan_183 : decode cX7_plan 183 = .ok (.getfield 46, 3) := by decide +kernel
theorem dX7_plan_186 : decode cX7_plan 186 = .ok (.iload 5, 2) := by decide +kernel
theorem dX7_plan_188 : decode cX7_plan 188 = .ok (.iaload, 1) := by decide +kernel
theorem dX7_plan_189 : decode cX7_plan 189 = .ok (.goto 10, 3) := by decide +kernel
theorem dX7_plan_192 : decode cX7_plan 192 = .ok (.aload_n 0, 1) := by decide +kernel
theorem dX7_plan_193 : decode cX7_plan 193 = .ok (.getfield 46, 3) := by decide +kernel
theorem dX7_plan_196 : decode cX7_plan 196 = .ok (.iload 6, 2) := by decide +kernel
theorem dX7_plan_198 : decode cX7_plan 198 = .ok (.iaload, 1) := by decide +kernel
theorem dX7_plan_199 : decode cX7_plan 199 = .ok (.iadd, 1) := by decide +kernel
theorem dX7_plan_200 : decode cX7_plan 200 = .ok (.istore 9, 2) := by decide +kernel
theorem dX7_plan_202 : decode cX7_plan 202 = .ok (.aload_n 0, 1) := by decide +kernel
theorem dX7_plan_203 : decode cX7_plan 203 = .ok (.getfield 49, 3) := by decide +kernel
theorem dX7_plan_206 : decode cX7_plan 206 = .ok (.iload_n 1, 1) := by decide +kernel
theorem dX7_plan_207 : decode cX7_plan 207 = .ok (.iaload, 1) := by decide +kernel
theorem dX7_plan_208 : decode cX7_plan 208 = .ok (.iconst (-1), 1) := by decide +kernel
theorem dX7_plan_209 : decode cX7_plan 209 = .ok (.if_icmp .eq 14, 3) := by decide +kernel
theorem dX7_plan_212 : decode cX7_plan 212 = .ok (.iload 9, 2) := by decide +kernel
theorem dX7_plan_214 : decode cX7_plan 214 = .ok (.aload_n 0, 1) := by decide +kernel
theorem dX7_plan_215 : decode cX7_plan 215 = .ok (.getfield 46, 3) := by decide +kernel
theorem dX7_plan_218 : decode cX7_plan 218 = .ok (.iload_n 1, 1) := by decide +kernel
theorem dX7_plan_219 : decode cX7_plan 219 = .ok (.iaload, 1) := by decide +kernel
theorem dX7_plan_220 : decode cX7_plan 220 = .ok (.if_icmp .ge 19, 3) := by decide +kernel
theorem dX7_plan_223 : decode cX7_plan 223 = .ok (.aload_n 0, 1) := by decide +kernel
theorem dX7_plan_224 : decode cX7_plan 224 = .ok (.getfield 46, 3) := by decide +kernel
theorem dX7_plan_227 : decode cX7_plan 227 = .ok (.iload_n 1, 1) := by decide +kernel
theorem dX7_plan_228 : decode cX7_plan 228 = .ok (.iload 9, 2) := by decide +kernel
theorem dX7_plan_230 : decode cX7_plan 230 = .ok (.iastore, 1) := by decide +kernel
theorem dX7_plan_231 : decode cX7_plan 231 = .ok (.aload_n 0, 1) := by decide +kernel
theorem dX7_plan_232 : decode cX7_plan 232 = .ok (.getfield 49, 3) := by decide +kernel
theorem dX7_plan_235 : decode cX7_plan 235 = .ok (.iload_n 1, 1) := by decide +kernel
theorem dX7_plan_236 : decode cX7_plan 236 = .ok (.iload 4, 2) := by decide +kernel
theorem dX7_plan_238 : decode cX7_plan 238 = .ok (.iastore, 1) := by decide +kernel
theorem dX7_plan_239 : decode cX7_plan 239 = .ok (.iinc 4 1, 3) := by decide +kernel
theorem dX7_plan_242 : decode cX7_plan 242 = .ok (.goto (-195), 3) := by decide +kernel
theorem dX7_plan_245 : decode cX7_plan 245 = .ok (.return_, 1) := by decide +kernel
set_option maxRecDepth 20000 in
theorem ggX7_orderNext_X7_digit : GoodIn wsX7_orderNext wsX7_digit := goodIn_r _ [8, 9, 10, 11, 12, 13, 14, 15, 16, 17, 18, 19, 20, 21, 22, 23, 24, 25, 26] rfl (by decide +kernel)
set_option maxRecDepth 20000 in
theorem gX7_orderNext_X7_digit : GoodIn wsX7_orderNext (wsV RX7 102 RX7 yX7_digit wsX7_digit) := goodIn_app (goodIn_of _ (by decide +kernel)) ggX7_orderNext_X7_digit
theorem dX7_orderNext_0 : decode cX7_orderNext 0 = .ok (.iconst 0, 1) := by decide +kernel
theorem dX7_orderNext_1 : decode cX7_orderNext 1 = .ok (.istore_n 2, 1) := by decide +kernel
theorem dX7_orderNext_2 : decode cX7_orderNext 2 = .ok (.iload_n 2, 1) := by decide +kernel
theorem dX7_orderNext_3 : decode cX7_orderNext 3 = .ok (.aload_n 0, 1) := by decide +kernel
theorem dX7_orderNext_4 : decode cX7_orderNext 4 = .ok (.getfield 64, 3) := by decide +kernel
theorem dX7_orderNext_7 : decode cX7_orderNext 7 = .ok (.if_icmp .ge 30, 3) := by decide +kernel
theorem dX7_orderNext_10 : decode cX7_orderNext 10 = .ok (.aload_n 0, 1) := by decide +kernel
theorem dX7_orderNext_11 : decode cX7_orderNext 11 = .ok (.iload_n 1, 1) := by decide +kernel
theorem dX7_orderNext_12 : decode cX7_orderNext 12 = .ok (.aload_n 0, 1) := by decide +kernel
theorem dX7_orderNext_13 : decode cX7_orderNext 13 = .ok (.getfield 33, 3) := by decide +kernel
theorem dX7_orderNext_16 : decode cX7_orderNext 16 = .ok (.iload_n 2, 1) := by decide +kernel
theorem dX7_orderNext_17 : decode cX7_orderNext 17 = .ok (.iaload, 1) := by decide +kernel
theorem dX7_orderNext_18 : decode cX7_orderNext 18 = .ok (.invokevirtual 102, 3) := by decide +kernel
theorem dX7_orderNext_21 : decode cX7_orderNext 21 = .ok (.ifCond .ne 10, 3) := by decide +kernel
theorem dX7_orderNext_24 : decode cX7_orderNext 24 = .ok (.aload_n 0, 1) := by decide +kernel
theorem dX7_orderNext_25 : decode cX7_orderNext 25 = .ok (.getfield 33, 3) := by decide +kernel
theorem dX7_orderNext_28 : decode cX7_orderNext 28 = .ok (.iload_n 2, 1) := by decide +kernel
theorem dX7_orderNext_29 : decode cX7_orderNext 29 = .ok (.iaload, 1) := by decide +kernel
theorem dX7_orderNext_30 : decode cX7_orderNext 30 = .ok (.ireturn, 1) := by decide +kernel
theorem dX7_orderNext_31 : decode cX7_orderNext 31 = .ok (.iinc 2 1, 3) := by decide +kernel
theorem dX7_orderNext_34 : decode cX7_orderNext 34 = .ok (.goto (-32), 3) := by decide +kernel
theorem dX7_orderNext_37 : decode cX7_orderNext 37 = .ok (.iconst 0, 1) := by decide +kernel
theorem dX7_orderNext_38 : decode cX7_orderNext 38 = .ok (.istore_n 2, 1) := by decide +kernel
theorem dX7_orderNext_39 : decode cX7_orderNext 39 = .ok (.iload_n 2, 1) := by decide +kernel
theorem dX7_orderNext_40 : decode cX7_orderNext 40 = .ok (.aload_n 0, 1) := by decide +kernel
theorem dX7_orderNext_41 : decode cX7_orderNext 41 = .ok (.getfield 7, 3) := by decide +kernel
theorem dX7_orderNext_44 : decode cX7_orderNext 44 = .ok (.if_icmp .ge 20, 3) := by decide +kernel
theorem dX7_orderNext_47 : decode cX7_orderNext 47 = .ok (.aload_n 0, 1) := by decide +kernel
theorem dX7_orderNext_48 : decode cX7_orderNext 48 = .ok (.iload_n 1, 1) := by decide +kernel
theorem dX7_orderNext_49 : decode cX7_orderNext 49 = .ok (.iload_n 2, 1) := by decide +kernel
theorem dX7_orderNext_50 : decode cX7_orderNext 50 = .ok (.invokevirtual 102, 3) := by decide +kernel
theorem dX7_orderNext_53 : decode cX7_orderNext 53 = .ok (.ifCond .ne 5, 3) := by decide +kernel
theorem dX7_orderNext_56 : decode cX7_orderNext 56 = .ok (.iload_n 2, 1) := by decide +kernel
theorem dX7_orderNext_57 : decode cX7_orderNext 57 = .ok (.ireturn, 1) := by decide +kernel
theorem dX7_orderNext_58 : decode cX7_orderNext 58 = .ok (.iinc 2 1, 3) := by decide +kernel
theorem dX7_orderNext_61 : decode cX7_orderNext 61 = .ok (.goto (-22), 3) := by decide +kernel
theorem dX7_orderNext_64 : decode cX7_orderNext 64 = .ok (.iconst (-1), 1) := by decide +kernel
theorem dX7_orderNext_65 : decode cX7_orderNext 65 = .ok (.ireturn, 1) := by decide +kernel
set_option maxRecDepth 20000 in
theorem ggX7_byOrder_X7_sureAt : GoodIn wsX7_byOrder wsX7_sureAt := goodIn_r _ [7, 8, 9, 10, 6, 11, 12, 13, 14, 15, 16, 2, 17, 18, 19, 20, 21, 22, 23, 24, 25, 26, 33, 34, 35, 36, 37, 38, 39, 40, 41, 42, 43, 44, 45, 46, 47, 48, 49] rfl (by decide +kernel)
set_option maxRecDepth 20000 in
theorem gX7_byOrder_X7_sureAt : GoodIn wsX7_byOrder (wsV RX7 112 RX7 yX7_sureAt wsX7_sureAt) := goodIn_app (goodIn_of _ (by decide +kernel)) ggX7_byOrder_X7_sureAt
set_option maxRecDepth 20000 in
theorem ggX7_byOrder_X7_orderNext : GoodIn wsX7_byOrder wsX7_orderNext := goodIn_r _ [30, 31, 32, 12, 13, 14, 15, 6, 16, 2, 33, 34, 35, 36, 37, 38, 39, 40, 41, 42, 43, 44, 45, 46, 47, 48, 49] rfl (by decide +kernel)
set_option maxRecDepth 20000 in
theorem gX7_byOrder_X7_orderNext : GoodIn wsX7_byOrder (wsV RX7 127 RX7 yX7_orderNext wsX7_orderNext) := goodIn_app (goodIn_of _ (by decide +kernel)) ggX7_byOrder_X7_orderNext
theorem dX7_byOrder_0 : decode cX7_byOrder 0 = .ok (.iload_n 2, 1) := by decide +kernel
theorem dX7_byOrder_1 : decode cX7_byOrder 1 = .ok (.istore_n 3, 1) := by decide +kernel
theorem dX7_byOrder_2 : decode cX7_byOrder 2 = .ok (.iconst 0, 1) := by decide +kernel
theorem dX7_byOrder_3 : decode cX7_byOrder 3 = .ok (.istore 4, 2) := by decide +kernel
theorem dX7_byOrder_5 : decode cX7_byOrder 5 = .ok (.aload_n 0, 1) := by decide +kernel
theorem dX7_byOrder_6 : decode cX7_byOrder 6 = .ok (.iload_n 3, 1) := by decide +kernel
theorem dX7_byOrder_7 : decode cX7_byOrder 7 = .ok (.invokevirtual 112, 3) := by decide +kernel
theorem dX7_byOrder_10 : decode cX7_byOrder 10 = .ok (.iconst (-1), 1) := by decide +kernel
theorem dX7_byOrder_11 : decode cX7_byOrder 11 = .ok (.if_icmp .ne 51, 3) := by decide +kernel
theorem dX7_byOrder_14 : decode cX7_byOrder 14 = .ok (.aload_n 0, 1) := by decide +kernel
theorem dX7_byOrder_15 : decode cX7_byOrder 15 = .ok (.iload_n 3, 1) := by decide +kernel
theorem dX7_byOrder_16 : decode cX7_byOrder 16 = .ok (.invokevirtual 127, 3) := by decide +kernel
theorem dX7_byOrder_19 : decode cX7_byOrder 19 = .ok (.istore 5, 2) := by decide +kernel
theorem dX7_byOrder_21 : decode cX7_byOrder 21 = .ok (.iload 4, 2) := by decide +kernel
theorem dX7_byOrder_23 : decode cX7_byOrder 23 = .ok (.aload_n 0, 1) := by decide +kernel
theorem dX7_byOrder_24 : decode cX7_byOrder 24 = .ok (.getfield 20, 3) := by decide +kernel
theorem dX7_byOrder_27 : decode cX7_byOrder 27 = .ok (.iload 5, 2) := by decide +kernel
theorem dX7_byOrder_29 : decode cX7_byOrder 29 = .ok (.iaload, 1) := by decide +kernel
theorem dX7_byOrder_30 : decode cX7_byOrder 30 = .ok (.iadd, 1) := by decide +kernel
theorem dX7_byOrder_31 : decode cX7_byOrder 31 = .ok (.istore 4, 2) := by decide +kernel
theorem dX7_byOrder_33 : decode cX7_byOrder 33 = .ok (.iload_n 3, 1) := by decide +kernel
theorem dX7_byOrder_34 : decode cX7_byOrder 34 = .ok (.aload_n 0, 1) := by decide +kernel
theorem dX7_byOrder_35 : decode cX7_byOrder 35 = .ok (.getfield 52, 3) := by decide +kernel
theorem dX7_byOrder_38 : decode cX7_byOrder 38 = .ok (.iload 5, 2) := by decide +kernel
theorem dX7_byOrder_40 : decode cX7_byOrder 40 = .ok (.iaload, 1) := by decide +kernel
theorem dX7_byOrder_41 : decode cX7_byOrder 41 = .ok (.iload_n 1, 1) := by decide +kernel
theorem dX7_byOrder_42 : decode cX7_byOrder 42 = .ok (.iload 5, 2) := by decide +kernel
theorem dX7_byOrder_44 : decode cX7_byOrder 44 = .ok (.ishr, 1) := by decide +kernel
theorem dX7_byOrder_45 : decode cX7_byOrder 45 = .ok (.iconst 1, 1) := by decide +kernel
theorem dX7_byOrder_46 : decode cX7_byOrder 46 = .ok (.iand, 1) := by decide +kernel
theorem dX7_byOrder_47 : decode cX7_byOrder 47 = .ok (.iconst 1, 1) := by decide +kernel
theorem dX7_byOrder_48 : decode cX7_byOrder 48 = .ok (.if_icmp .ne 7, 3) := by decide +kernel
theorem dX7_byOrder_51 : decode cX7_byOrder 51 = .ok (.iconst 1, 1) := by decide +kernel
theorem dX7_byOrder_52 : decode cX7_byOrder 52 = .ok (.goto 4, 3) := by decide +kernel
theorem dX7_byOrder_55 : decode cX7_byOrder 55 = .ok (.iconst 2, 1) := by decide +kernel
theorem dX7_byOrder_56 : decode cX7_byOrder 56 = .ok (.imul, 1) := by decide +kernel
theorem dX7_byOrder_57 : decode cX7_byOrder 57 = .ok (.iadd, 1) := by decide +kernel
theorem dX7_byOrder_58 : decode cX7_byOrder 58 = .ok (.istore_n 3, 1) := by decide +kernel
theorem dX7_byOrder_59 : decode cX7_byOrder 59 = .ok (.goto (-54), 3) := by decide +kernel
theorem dX7_byOrder_62 : decode cX7_byOrder 62 = .ok (.iload 4, 2) := by decide +kernel
theorem dX7_byOrder_64 : decode cX7_byOrder 64 = .ok (.ireturn, 1) := by decide +kernel
set_option maxRecDepth 20000 in
theorem ggX7_shown_X7_settings : GoodIn wsX7_shown wsX7_settings := goodIn_r _ [8, 1, 27, 28, 29, 30, 31, 32, 33, 34, 35, 36, 37, 38, 39, 40, 41, 42, 43] rfl (by decide +kernel)
set_option maxRecDepth 20000 in
theorem gX7_shown_X7_settings : GoodIn wsX7_shown (wsV RX7 76 RX7 yX7_settings wsX7_settings) := goodIn_app (goodIn_of _ (by decide +kernel)) ggX7_shown_X7_settings
set_option maxRecDepth 20000 in
theorem ggX7_shown_X7_digit : GoodIn wsX7_shown wsX7_digit := goodIn_r _ [12, 2, 27, 28, 29, 30, 31, 32, 33, 34, 35, 36, 37, 38, 39, 40, 41, 42, 43] rfl (by decide +kernel)
set_option maxRecDepth 20000 in
theorem gX7_shown_X7_digit : GoodIn wsX7_shown (wsV RX7 102 RX7 yX7_digit wsX7_digit) := goodIn_app (goodIn_of _ (by decide +kernel)) ggX7_shown_X7_digit
set_option maxRecDepth 20000 in
theorem ggX7_shown_X7_sureAt : GoodIn wsX7_shown wsX7_sureAt := goodIn_r _ [16, 17, 18, 19, 7, 20, 1, 9, 10, 11, 12, 2, 21, 22, 23, 24, 25, 26, 4, 5, 6, 8, 27, 28, 29, 30, 31, 32, 33, 34, 35, 36, 37, 38, 39, 40, 41, 42, 43] rfl (by decide +kernel)
set_option maxRecDepth 20000 in
theorem gX7_shown_X7_sureAt : GoodIn wsX7_shown (wsV RX7 112 RX7 yX7_sureAt wsX7_sureAt) := goodIn_app (goodIn_of _ (by decide +kernel)) ggX7_shown_X7_sureAt
theorem dX7_shown_0 : decode cX7_shown 0 = .ok (.iconst (-1), 1) := by decide +kernel
theorem dX7_shown_1 : decode cX7_shown 1 = .ok (.istore_n 3, 1) := by decide +kernel
theorem dX7_shown_2 : decode cX7_shown 2 = .ok (.iconst 0, 1) := by decide +kernel
theorem dX7_shown_3 : decode cX7_shown 3 = .ok (.istore 4, 2) := by decide +kernel
theorem dX7_shown_5 : decode cX7_shown 5 = .ok (.iload 4, 2) := by decide +kernel
theorem dX7_shown_7 : decode cX7_shown 7 = .ok (.aload_n 0, 1) := by decide +kernel
theorem dX7_shown_8 : decode cX7_shown 8 = .ok (.invokevirtual 76, 3) := by decide +kernel
theorem dX7_shown_11 : decode cX7_shown 11 = .ok (.if_icmp .ge 152, 3) := by decide +kernel
theorem dX7_shown_14 : decode cX7_shown 14 = .ok (.iload_n 2, 1) := by decide +kernel
theorem dX7_shown_15 : decode cX7_shown 15 = .ok (.istore 5, 2) := by decide +kernel
theorem dX7_shown_17 : decode cX7_shown 17 = .ok (.iconst 0, 1) := by decide +kernel
theorem dX7_shown_18 : decode cX7_shown 18 = .ok (.istore 6, 2) := by decide +kernel
theorem dX7_shown_20 : decode cX7_shown 20 = .ok (.iconst 1, 1) := by decide +kernel
theorem dX7_shown_21 : decode cX7_shown 21 = .ok (.istore 7, 2) := by decide +kernel
theorem dX7_shown_23 : decode cX7_shown 23 = .ok (.iconst 0, 1) := by decide +kernel
theorem dX7_shown_24 : decode cX7_shown 24 = .ok (.istore 8, 2) := by decide +kernel
theorem dX7_shown_26 : decode cX7_shown 26 = .ok (.iload 8, 2) := by decide +kernel
theorem dX7_shown_28 : decode cX7_shown 28 = .ok (.aload_n 0, 1) := by decide +kernel
theorem dX7_shown_29 : decode cX7_shown 29 = .ok (.getfield 7, 3) := by decide +kernel
theorem dX7_shown_32 : decode cX7_shown 32 = .ok (.if_icmp .ge 96, 3) := by decide +kernel
theorem dX7_shown_35 : decode cX7_shown 35 = .ok (.iload 4, 2) := by decide +kernel
theorem dX7_shown_37 : decode cX7_shown 37 = .ok (.iload 8, 2) := by decide +kernel
theorem dX7_shown_39 : decode cX7_shown 39 = .ok (.ishr, 1) := by decide +kernel
theorem dX7_shown_40 : decode cX7_shown 40 = .ok (.iconst 1, 1) := by decide +kernel
theorem dX7_shown_41 : decode cX7_shown 41 = .ok (.iand, 1) := by decide +kernel
theorem dX7_shown_42 : decode cX7_shown 42 = .ok (.iconst 1, 1) := by decide +kernel
theorem dX7_shown_43 : decode cX7_shown 43 = .ok (.if_icmp .ne 79, 3) := by decide +kernel
theorem dX7_shown_46 : decode cX7_shown 46 = .ok (.iload 7, 2) := by decide +kernel
theorem dX7_shown_48 : decode cX7_shown 48 = .ok (.ifCond .eq 17, 3) := by decide +kernel
theorem dX7_shown_51 : decode cX7_shown 51 = .ok (.aload_n 0, 1) := by decide +kernel
theorem dX7_shown_52 : decode cX7_shown 52 = .ok (.iload_n 2, 1) := by decide +kernel
theorem dX7_shown_53 : decode cX7_shown 53 = .ok (.iload 8, 2) := by decide +kernel
theorem dX7_shown_55 : decode cX7_shown 55 = .ok (.invokevirtual 102, 3) := by decide +kernel
theorem dX7_shown_58 : decode cX7_shown 58 = .ok (.ifCond .ne 7, 3) := by decide +kernel
theorem dX7_shown_61 : decode cX7_shown 61 = .ok (.iconst 1, 1) := by decide +kernel
theorem dX7_shown_62 : decode cX7_shown 62 = .ok (.goto 4, 3) := by decide +kernel
theorem dX7_shown_65 : decode cX7_shown 65 = .ok (.iconst 0, 1) := by decide +kernel
theorem dX7_shown_66 : decode cX7_shown 66 = .ok (.istore 7, 2) := by decide +kernel
theorem dX7_shown_68 : decode cX7_shown 68 = .ok (.iload 5, 2) := by decide +kernel
theorem dX7_shown_70 : decode cX7_shown 70 = .ok (.aload_n 0, 1) := by decide +kernel
theorem dX7_shown_71 : decode cX7_shown 71 = .ok (.iload_n 2, 1) := by decide +kernel
theorem dX7_shown_72 : decode cX7_shown 72 = .ok (.iload 8, 2) := by decide +kernel
theorem dX7_shown_74 : decode cX7_shown 74 = .ok (.invokevirtual 102, 3) := by decide +kernel
theorem dX7_shown_77 : decode cX7_shown 77 = .ok (.ifCond .ne 29, 3) := by decide +kernel
theorem dX7_shown_80 : decode cX7_shown 80 = .ok (.aload_n 0, 1) := by decide +kernel
theorem dX7_shown_81 : decode cX7_shown 81 = .ok (.getfield 52, 3) := by decide +kernel
theorem dX7_shown_84 : decode cX7_shown 84 = .ok (.iload 8, 2) := by decide +kernel
theorem dX7_shown_86 : decode cX7_shown 86 = .ok (.iaload, 1) := by decide +kernel
theorem dX7_shown_87 : decode cX7_shown 87 = .ok (.iload_n 1, 1) := by decide +kernel
theorem dX7_shown_88 : decode cX7_shown 88 = .ok (.iload 8, 2) := by decide +kernel
theorem dX7_shown_90 : decode cX7_shown 90 = .ok (.ishr, 1) := by decide +kernel
theorem dX7_shown_91 : decode cX7_shown 91 = .ok (.iconst 1, 1) := by decide +kernel
theorem dX7_shown_92 : decode cX7_shown 92 = .ok (.iand, 1) := by decide +kernel
theorem dX7_shown_93 : decode cX7_shown 93 = .ok (.iconst 1, 1) := by decide +kernel
theorem dX7_shown_94 : decode cX7_shown 94 = .ok (.if_icmp .ne 7, 3) := by decide +kernel
theorem dX7_shown_97 : decode cX7_shown 97 = .ok (.iconst 1, 1) := by decide +kernel
theorem dX7_shown_98 : decode cX7_shown 98 = .ok (.goto 4, 3) := by decide +kernel
theorem dX7_shown_101 : decode cX7_shown 101 = .ok (.iconst 2, 1) := by decide +kernel
theorem dX7_shown_102 : decode cX7_shown 102 = .ok (.imul, 1) := by decide +kernel
theorem dX7_shown_103 : decode cX7_shown 103 = .ok (.goto 4, 3) := by decide +kernel
theorem dX7_shown_106 : decode cX7_shown 106 = .ok (.iconst 0, 1) := by decide +kernel
theorem dX7_shown_107 : decode cX7_shown 107 = .ok (.iadd, 1) := by decide +kernel
theorem dX7_shown_108 : decode cX7_shown 108 = .ok (.istore 5, 2) := by decide +kernel
theorem dX7_shown_110 : decode cX7_shown 110 = .ok (.iload 6, 2) := by decide +kernel
theorem dX7_shown_112 : decode cX7_shown 112 = .ok (.aload_n 0, 1) := by decide +kernel
theorem dX7_shown_113 : decode cX7_shown 113 = .ok (.getfield 20, 3) := by decide +kernel
theorem dX7_shown_116 : decode cX7_shown 116 = .ok (.iload 8, 2) := by decide +kernel
theorem dX7_shown_118 : decode cX7_shown 118 = .ok (.iaload, 1) := by decide +kernel
theorem dX7_shown_119 : decode cX7_shown 119 = .ok (.iadd, 1) := by decide +kernel
theorem dX7_shown_120 : decode cX7_shown 120 = .ok (.istore 6, 2) := by decide +kernel
theorem dX7_shown_122 : decode cX7_shown 122 = .ok (.iinc 8 1, 3) := by decide +kernel
theorem dX7_shown_125 : decode cX7_shown 125 = .ok (.goto (-99), 3) := by decide +kernel
theorem dX7_shown_128 : decode cX7_shown 128 = .ok (.iload 7, 2) := by decide +kernel
theorem dX7_shown_130 : decode cX7_shown 130 = .ok (.ifCond .eq 27, 3) := by decide +kernel
theorem dX7_shown_133 : decode cX7_shown 133 = .ok (.iload_n 3, 1) := by decide +kernel
theorem dX7_shown_134 : decode cX7_shown 134 = .ok (.iconst (-1), 1) := by decide +kernel
theorem dX7_shown_135 : decode cX7_shown 135 = .ok (.if_icmp .eq 9, 3) := by decide +kernel
theorem dX7_shown_138 : decode cX7_shown 138 = .ok (.iload 6, 2) := by decide +kernel
theorem dX7_shown_140 : decode cX7_shown 140 = .ok (.iload_n 3, 1) := by decide +kernel
theorem dX7_shown_141 : decode cX7_shown 141 = .ok (.if_icmp .ge 16, 3) := by decide +kernel
theorem dX7_shown_144 : decode cX7_shown 144 = .ok (.aload_n 0, 1) := by decide +kernel
theorem dX7_shown_145 : decode cX7_shown 145 = .ok (.iload 5, 2) := by decide +kernel
theorem dX7_shown_147 : decode cX7_shown 147 = .ok (.invokevirtual 112, 3) := by decide +kernel
theorem dX7_shown_150 : decode cX7_shown 150 = .ok (.iconst (-1), 1) := by decide +kernel
theorem dX7_shown_151 : decode cX7_shown 151 = .ok (.if_icmp .eq 6, 3) := by decide +kernel
theorem dX7_shown_154 : decode cX7_shown 154 = .ok (.iload 6, 2) := by decide +kernel
theorem dX7_shown_156 : decode cX7_shown 156 = .ok (.istore_n 3, 1) := by decide +kernel
theorem dX7_shown_157 : decode cX7_shown 157 = .ok (.iinc 4 1, 3) := by decide +kernel
theorem dX7_shown_160 : decode cX7_shown 160 = .ok (.goto (-155), 3) := by decide +kernel
theorem dX7_shown_163 : decode cX7_shown 163 = .ok (.iload_n 3, 1) := by decide +kernel
theorem dX7_shown_164 : decode cX7_shown 164 = .ok (.ireturn, 1) := by decide +kernel
set_option maxRecDepth 20000 in
theorem ggX7_told_X7_now : GoodIn wsX7_told wsX7_now := goodIn_r _ [14, 15, 16, 17, 83, 84, 85, 86, 87, 88, 89, 90, 91, 92, 93, 94, 95, 96, 97, 98, 99] rfl (by decide +kernel)
set_option maxRecDepth 20000 in
theorem gX7_told_X7_now : GoodIn wsX7_told (wsV RX7 109 RX7 yX7_now wsX7_now) := goodIn_app (goodIn_of _ (by decide +kernel)) ggX7_told_X7_now
set_option maxRecDepth 20000 in
theorem ggX7_told_X7_left : GoodIn wsX7_told wsX7_left := goodIn_r _ [21, 15, 22, 23, 24, 25, 26, 13, 27, 16, 83, 84, 85, 86, 87, 88, 89, 90, 91, 92, 93, 94, 95, 96, 97, 98, 99] rfl (by decide +kernel)
set_option maxRecDepth 20000 in
theorem gX7_told_X7_left : GoodIn wsX7_told (wsV RX7 123 RX7 yX7_left wsX7_left) := goodIn_app (goodIn_of _ (by decide +kernel)) ggX7_told_X7_left
set_option maxRecDepth 20000 in
theorem ggX7_told_X7_in : GoodIn wsX7_told wsX7_in := goodIn_r _ [30] rfl (by decide +kernel)
set_option maxRecDepth 20000 in
theorem gX7_told_X7_in : GoodIn wsX7_told (va_wsS RX7 55 yX7_in wsX7_in) := goodIn_app (goodIn_of _ (by decide +kernel)) ggX7_told_X7_in
set_option maxRecDepth 20000 in
theorem ggX7_told_X7_plans : GoodIn wsX7_told wsX7_plans := goodIn_r _ [34, 15, 16, 35, 36, 37, 13, 38, 24, 25, 26, 27, 39, 40, 41, 42, 6, 8, 7, 9, 43, 44, 45, 46, 47, 48, 49, 50, 51, 52, 53, 54, 55, 56, 1, 57, 58, 59, 60, 18, 19, 20, 21, 22, 23, 83, 84, 85, 86, 87, 88, 89, 90, 91, 92, 93, 94, 95, 96, 97, 98, 99] rfl (by decide +kernel)
set_option maxRecDepth 20000 in
theorem gX7_told_X7_plans : GoodIn wsX7_told (wsV RX7 138 RX7 yX7_plans wsX7_plans) := goodIn_app (goodIn_of _ (by decide +kernel)) ggX7_told_X7_plans
set_option maxRecDepth 20000 in
theorem ggX7_told_X7_settings : GoodIn wsX7_told wsX7_settings := goodIn_r _ [60, 15, 83, 84, 85, 86, 87, 88, 89, 90, 91, 92, 93, 94, 95, 96, 97, 98, 99] rfl (by decide +kernel)
set_option maxRecDepth 20000 in
theorem gX7_told_X7_settings : GoodIn wsX7_told (wsV RX7 76 RX7 yX7_settings wsX7_settings) := goodIn_app (goodIn_of _ (by decide +kernel)) ggX7_told_X7_settings
set_option maxRecDepth 20000 in
theorem ggX7_told_X7_isSuch : GoodIn wsX7_told wsX7_isSuch := goodIn_r _ [64, 15, 24, 25, 26, 13, 27, 16, 83, 84, 85, 86, 87, 88, 89, 90, 91, 92, 93, 94, 95, 96, 97, 98, 99] rfl (by decide +kernel)
set_option maxRecDepth 20000 in
theorem gX7_told_X7_isSuch : GoodIn wsX7_told (wsV RX7 141 RX7 yX7_isSuch wsX7_isSuch) := goodIn_app (goodIn_of _ (by decide +kernel)) ggX7_told_X7_isSuch
set_option maxRecDepth 20000 in
theorem ggX7_told_X7_isGood : GoodIn wsX7_told wsX7_isGood := goodIn_r _ [55, 56, 1, 83, 84, 85, 86, 87, 88, 89, 90, 91, 92, 93, 94, 95, 96, 97, 98, 99] rfl (by decide +kernel)
set_option maxRecDepth 20000 in
theorem gX7_told_X7_isGood : GoodIn wsX7_told (wsV RX7 94 RX7 yX7_isGood wsX7_isGood) := goodIn_app (goodIn_of _ (by decide +kernel)) ggX7_told_X7_isGood
set_option maxRecDepth 20000 in
theorem ggX7_told_X7_weight : GoodIn wsX7_told wsX7_weight := goodIn_r _ [68, 15, 22, 23, 83, 84, 85, 86, 87, 88, 89, 90, 91, 92, 93, 94, 95, 96, 97, 98, 99] rfl (by decide +kernel)
set_option maxRecDepth 20000 in
theorem gX7_told_X7_weight : GoodIn wsX7_told (wsV RX7 144 RX7 yX7_weight wsX7_weight) := goodIn_app (goodIn_of _ (by decide +kernel)) ggX7_told_X7_weight
set_option maxRecDepth 20000 in
theorem ggX7_told_X7_shown : GoodIn wsX7_told wsX7_shown := goodIn_r _ [72, 15, 16, 43, 57, 58, 59, 13, 60, 24, 25, 26, 27, 44, 45, 46, 47, 48, 49, 50, 51, 52, 53, 54, 55, 56, 1, 83, 84, 85, 86, 87, 88, 89, 90, 91, 92, 93, 94, 95, 96, 97, 98, 99] rfl (by decide +kernel)
set_option maxRecDepth 20000 in
theorem gX7_told_X7_shown : GoodIn wsX7_told (wsV RX7 147 RX7 yX7_shown wsX7_shown) := goodIn_app (goodIn_of _ (by decide +kernel)) ggX7_told_X7_shown
set_option maxRecDepth 20000 in
theorem ggX7_told_X7_byOrder : GoodIn wsX7_told wsX7_byOrder := goodIn_r _ [76, 43, 16, 44, 45, 46, 13, 47, 48, 49, 50, 51, 15, 24, 25, 26, 27, 52, 53, 54, 55, 56, 1, 57, 58, 59, 60, 77, 78, 79, 80, 81, 82, 83, 84, 85, 86, 87, 88, 89, 90, 91, 92, 93, 94, 95, 96, 97, 98, 99] rfl (by decide +kernel)
set_option maxRecDepth 20000 in
theorem gX7_told_X7_byOrder : GoodIn wsX7_told (wsV RX7 150 RX7 yX7_byOrder wsX7_byOrder) := goodIn_app (goodIn_of _ (by decide +kernel)) ggX7_told_X7_byOrder
theorem dX7_told_0 : decode cX7_told 0 = .ok (.aload_n 0, 1) := by decide +kernel
theorem dX7_told_1 : decode cX7_told 1 = .ok (.invokevirtual 109, 3) := by decide +kernel
theorem dX7_told_4 : decode cX7_told 4 = .ok (.istore_n 2, 1) := by decide +kernel
theorem dX7_told_5 : decode cX7_told 5 = .ok (.iload_n 1, 1) := by decide +kernel
theorem dX7_told_6 : decode cX7_told 6 = .ok (.ifCond .ne 9, 3) := by decide +kernel
theorem dX7_told_9 : decode cX7_told 9 = .ok (.aload_n 0, 1) := by decide +kernel
theorem dX7_told_10 : decode cX7_told 10 = .ok (.iload_n 2, 1) := by decide +kernel
theorem dX7_told_11 : decode cX7_told 11 = .ok (.invokevirtual 123, 3) := by decide +kernel
theorem dX7_told_14 : decode cX7_told 14 = .ok (.lreturn, 1) := by decide +kernel
theorem dX7_told_15 : decode cX7_told 15 = .ok (.aload_n 0, 1) := by decide +kernel
theorem dX7_told_16 : decode cX7_told 16 = .ok (.getfield 27, 3) := by decide +kernel
theorem dX7_told_19 : decode cX7_told 19 = .ok (.ifCond .lt 15, 3) := by decide +kernel
theorem dX7_told_22 : decode cX7_told 22 = .ok (.iload_n 1, 1) := by decide +kernel
theorem dX7_told_23 : decode cX7_told 23 = .ok (.i2l, 1) := by decide +kernel
theorem dX7_told_24 : decode cX7_told 24 = .ok (.lconst 1, 1) := by decide +kernel
theorem dX7_told_25 : decode cX7_told 25 = .ok (.ldc2_w 130, 3) := by decide +kernel
theorem dX7_told_28 : decode cX7_told 28 = .ok (.invokestatic 55, 3) := by decide +kernel
theorem dX7_told_31 : decode cX7_told 31 = .ok (.ifCond .ne 7, 3) := by decide +kernel
theorem dX7_told_34 : decode cX7_told 34 = .ok (.ldc2_w 132, 3) := by decide +kernel
theorem dX7_told_37 : decode cX7_told 37 = .ok (.lreturn, 1) := by decide +kernel
theorem dX7_told_38 : decode cX7_told 38 = .ok (.iload_n 1, 1) := by decide +kernel
theorem dX7_told_39 : decode cX7_told 39 = .ok (.i2l, 1) := by decide +kernel
theorem dX7_told_40 : decode cX7_told 40 = .ok (.ldc2_w 134, 3) := by decide +kernel
theorem dX7_told_43 : decode cX7_told 43 = .ok (.ldc2_w 136, 3) := by decide +kernel
theorem dX7_told_46 : decode cX7_told 46 = .ok (.invokestatic 55, 3) := by decide +kernel
theorem dX7_told_49 : decode cX7_told 49 = .ok (.ifCond .eq 59, 3) := by decide +kernel
theorem dX7_told_52 : decode cX7_told 52 = .ok (.aload_n 0, 1) := by decide +kernel
theorem dX7_told_53 : decode cX7_told 53 = .ok (.invokevirtual 138, 3) := by decide +kernel
theorem dX7_told_56 : decode cX7_told 56 = .ok (.iload_n 1, 1) := by decide +kernel
theorem dX7_told_57 : decode cX7_told 57 = .ok (.iconst 2, 1) := by decide +kernel
theorem dX7_told_58 : decode cX7_told 58 = .ok (.if_icmp .ne 12, 3) := by decide +kernel
theorem dX7_told_61 : decode cX7_told 61 = .ok (.aload_n 0, 1) := by decide +kernel
theorem dX7_told_62 : decode cX7_told 62 = .ok (.getfield 39, 3) := by decide +kernel
theorem dX7_told_65 : decode cX7_told 65 = .ok (.iload_n 2, 1) := by decide +kernel
theorem dX7_told_66 : decode cX7_told 66 = .ok (.laload, 1) := by decide +kernel
theorem dX7_told_67 : decode cX7_told 67 = .ok (.goto 40, 3) := by decide +kernel
theorem dX7_told_70 : decode cX7_told 70 = .ok (.iload_n 1, 1) := by decide +kernel
theorem dX7_told_71 : decode cX7_told 71 = .ok (.iconst 3, 1) := by decide +kernel
theorem dX7_told_72 : decode cX7_told 72 = .ok (.if_icmp .ne 13, 3) := by decide +kernel
theorem dX7_told_75 : decode cX7_told 75 = .ok (.aload_n 0, 1) := by decide +kernel
theorem dX7_told_76 : decode cX7_told 76 = .ok (.getfield 43, 3) := by decide +kernel
theorem dX7_told_79 : decode cX7_told 79 = .ok (.iload_n 2, 1) := by decide +kernel
theorem dX7_told_80 : decode cX7_told 80 = .ok (.iaload, 1) := by decide +kernel
theorem dX7_told_81 : decode cX7_told 81 = .ok (.i2l, 1) := by decide +kernel
theorem dX7_told_82 : decode cX7_told 82 = .ok (.goto 25, 3) := by decide +kernel
theorem dX7_told_85 : decode cX7_told 85 = .ok (.iload_n 1, 1) := by decide +kernel
theorem dX7_told_86 : decode cX7_told 86 = .ok (.iconst 4, 1) := by decide +kernel
theorem dX7_told_87 : decode cX7_told 87 = .ok (.if_icmp .ne 13, 3) := by decide +kernel
theorem dX7_told_90 : decode cX7_told 90 = .ok (.aload_n 0, 1) := by decide +kernel
theorem dX7_told_91 : decode cX7_told 91 = .ok (.getfield 46, 3) := by decide +kernel
theorem dX7_told_94 : decode cX7_told 94 = .ok (.iload_n 2, 1) := by decide +kernel
theorem dX7_told_95 : decode cX7_told 95 = .ok (.iaload, 1) := by decide +kernel
theorem dX7_told_96 : decode cX7_told 96 = .ok (.i2l, 1) := by decide +kernel
theorem dX7_told_97 : decode cX7_told 97 = .ok (.goto 10, 3) := by decide +kernel
theorem dX7_told_100 : decode cX7_told 100 = .ok (.aload_n 0, 1) := by decide +kernel
theorem dX7_told_101 : decode cX7_told 101 = .ok (.getfield 49, 3) := by decide +kernel
theorem dX7_told_104 : decode cX7_told 104 = .ok (.iload_n 2, 1) := by decide +kernel
theorem dX7_told_105 : decode cX7_told 105 = .ok (.iaload, 1) := by decide +kernel
theorem dX7_told_106 : decode cX7_told 106 = .ok (.i2l, 1) := by decide +kernel
theorem dX7_told_107 : decode cX7_told 107 = .ok (.lreturn, 1) := by decide +kernel
theorem dX7_told_108 : decode cX7_told 108 = .ok (.lconst 0, 1) := by decide +kernel
theorem dX7_told_109 : decode cX7_told 109 = .ok (.lstore_n 3, 1) := by decide +kernel
theorem dX7_told_110 : decode cX7_told 110 = .ok (.iconst 0, 1) := by decide +kernel
theorem dX7_told_111 : decode cX7_told 111 = .ok (.istore 5, 2) := by decide +kernel
theorem dX7_told_113 : decode cX7_told 113 = .ok (.iload 5, 2) := by decide +kernel
theorem dX7_told_115 : decode cX7_told 115 = .ok (.aload_n 0, 1) := by decide +kernel
theorem dX7_told_116 : decode cX7_told 116 = .ok (.invokevirtual 76, 3) := by decide +kernel
theorem dX7_told_119 : decode cX7_told 119 = .ok (.if_icmp .ge 154, 3) := by decide +kernel
theorem dX7_told_122 : decode cX7_told 122 = .ok (.aload_n 0, 1) := by decide +kernel
theorem dX7_told_123 : decode cX7_told 123 = .ok (.iload 5, 2) := by decide +kernel
theorem dX7_told_125 : decode cX7_told 125 = .ok (.iload_n 2, 1) := by decide +kernel
theorem dX7_told_126 : decode cX7_told 126 = .ok (.invokevirtual 141, 3) := by decide +kernel
theorem dX7_told_129 : decode cX7_told 129 = .ok (.ifCond .ne 6, 3) := by decide +kernel
theorem dX7_told_132 : decode cX7_told 132 = .ok (.goto 135, 3) := by decide +kernel
theorem dX7_told_135 : decode cX7_told 135 = .ok (.iload_n 1, 1) := by decide +kernel
theorem dX7_told_136 : decode cX7_told 136 = .ok (.lookupswitch 103 #[(1, 36), (6, 61), (7, 82)], 36) := by decide +kernel
theorem dX7_told_172 : decode cX7_told 172 = .ok (.lload_n 3, 1) := by decide +kernel
theorem dX7_told_173 : decode cX7_told 173 = .ok (.aload_n 0, 1) := by decide +kernel
theorem dX7_told_174 : decode cX7_told 174 = .ok (.iload 5, 2) := by decide +kernel
theorem dX7_told_176 : decode cX7_told 176 = .ok (.invokevirtual 94, 3) := by decide +kernel
theorem dX7_told_179 : decode cX7_told 179 = .ok (.ifCond .eq 12, 3) := by decide +kernel
theorem dX7_told_182 : decode cX7_told 182 = .ok (.aload_n 0, 1) := by decide +kernel
theorem dX7_told_183 : decode cX7_told 183 = .ok (.iload 5, 2) := by decide +kernel
theorem dX7_told_185 : decode cX7_told 185 = .ok (.invokevirtual 144, 3) := by decide +kernel
theorem dX7_told_188 : decode cX7_told 188 = .ok (.goto 4, 3) := by decide +kernel
theorem dX7_told_191 : decode cX7_told 191 = .ok (.lconst 0, 1) := by decide +kernel
theorem dX7_told_192 : decode cX7_told 192 = .ok (.ladd, 1) := by decide +kernel
theorem dX7_told_193 : decode cX7_told 193 = .ok (.lstore_n 3, 1) := by decide +kernel
theorem dX7_told_194 : decode cX7_told 194 = .ok (.goto 73, 3) := by decide +kernel
theorem dX7_told_197 : decode cX7_told 197 = .ok (.lload_n 3, 1) := by decide +kernel
theorem dX7_told_198 : decode cX7_told 198 = .ok (.aload_n 0, 1) := by decide +kernel
theorem dX7_told_199 : decode cX7_told 199 = .ok (.iload 5, 2) := by decide +kernel
theorem dX7_told_201 : decode cX7_told 201 = .ok (.invokevirtual 144, 3) := by decide +kernel
theorem dX7_told_204 : decode cX7_told 204 = .ok (.aload_n 0, 1) := by decide +kernel
theorem dX7_told_205 : decode cX7_told 205 = .ok (.iload 5, 2) := by decide +kernel
theorem dX7_told_207 : decode cX7_told 207 = .ok (.iload_n 2, 1) := by decide +kernel
theorem dX7_told_208 : decode cX7_told 208 = .ok (.invokevirtual 147, 3) := by decide +kernel
theorem dX7_told_211 : decode cX7_told 211 = .ok (.i2l, 1) := by decide +kernel
theorem dX7_told_212 : decode cX7_told 212 = .ok (.lmul, 1) := by decide +kernel
theorem dX7_told_213 : decode cX7_told 213 = .ok (.ladd, 1) := by decide +kernel
theorem dX7_told_214 : decode cX7_told 214 = .ok (.lstore_n 3, 1) := by decide +kernel
theorem dX7_told_215 : decode cX7_told 215 = .ok (.goto 52, 3) := by decide +kernel
theorem dX7_told_218 : decode cX7_told 218 = .ok (.lload_n 3, 1) := by decide +kernel
theorem dX7_told_219 : decode cX7_told 219 = .ok (.aload_n 0, 1) := by decide +kernel
theorem dX7_told_220 : decode cX7_told 220 = .ok (.iload 5, 2) := by decide +kernel
theorem dX7_told_222 : decode cX7_told 222 = .ok (.invokevirtual 144, 3) := by decide +kernel
theorem dX7_told_225 : decode cX7_told 225 = .ok (.aload_n 0, 1) := by decide +kernel
theorem dX7_told_226 : decode cX7_told 226 = .ok (.iload 5, 2) := by decide +kernel
theorem dX7_told_228 : decode cX7_told 228 = .ok (.iload_n 2, 1) := by decide +kernel
theorem dX7_told_229 : decode cX7_told 229 = .ok (.invokevirtual 150, 3) := by decide +kernel
theorem dX7_told_232 : decode cX7_told 232 = .ok (.i2l, 1) := by decide +kernel
theorem dX7_told_233 : decode cX7_told 233 = .ok (.lmul, 1) := by decide +kernel
theorem dX7_told_234 : decode cX7_told 234 = .ok (.ladd, 1) := by decide +kernel
theorem dX7_told_235 : decode cX7_told 235 = .ok (.lstore_n 3, 1) := by decide +kernel
theorem dX7_told_236 : decode cX7_told 236 = .ok (.goto 31, 3) := by decide +kernel
theorem dX7_told_239 : decode cX7_told 239 = .ok (.aload_n 0, 1) := by decide +kernel
theorem dX7_told_240 : decode cX7_told 240 = .ok (.iload 5, 2) := by decide +kernel
theorem dX7_told_242 : decode cX7_told 242 = .ok (.iload_n 2, 1) := by decide +kernel
theorem dX7_told_243 : decode cX7_told 243 = .ok (.invokevirtual 150, 3) := by decide +kernel
theorem dX7_told_246 : decode cX7_told 246 = .ok (.istore 6, 2) := by decide +kernel
theorem dX7_told_248 : decode cX7_told 248 = .ok (.iload 6, 2) := by decide +kernel
theorem dX7_told_250 : decode cX7_told 250 = .ok (.i2l, 1) := by decide +kernel
theorem dX7_told_251 : decode cX7_told 251 = .ok (.lload_n 3, 1) := by decide +kernel
theorem dX7_told_252 : decode cX7_told 252 = .ok (.lcmp, 1) := by decide +kernel
theorem dX7_told_253 : decode cX7_told 253 = .ok (.ifCond .le 9, 3) := by decide +kernel
theorem dX7_told_256 : decode cX7_told 256 = .ok (.iload 6, 2) := by decide +kernel
theorem dX7_told_258 : decode cX7_told 258 = .ok (.i2l, 1) := by decide +kernel
theorem dX7_told_259 : decode cX7_told 259 = .ok (.goto 4, 3) := by decide +kernel
theorem dX7_told_262 : decode cX7_told 262 = .ok (.lload_n 3, 1) := by decide +kernel
theorem dX7_told_263 : decode cX7_told 263 = .ok (.lstore_n 3, 1) := by decide +kernel
theorem dX7_told_264 : decode cX7_told 264 = .ok (.goto 3, 3) := by decide +kernel
theorem dX7_told_267 : decode cX7_told 267 = .ok (.iinc 5 1, 3) := by decide +kernel
theorem dX7_told_270 : decode cX7_told 270 = .ok (.goto (-157), 3) := by decide +kernel
theorem dX7_told_273 : decode cX7_told 273 = .ok (.lload_n 3, 1) := by decide +kernel
theorem dX7_told_274 : decode cX7_told 274 = .ok (.lreturn, 1) := by decide +kernel
set_option maxRecDepth 20000 in
theorem ggX7_of_X7_isPart : GoodIn wsX7_of wsX7_isPart := goodIn_r _ [10, 11, 12, 13, 9, 14, 70, 71, 72, 73, 74, 75, 76, 77, 78, 79, 80, 81, 82, 83, 84, 85, 86] rfl (by decide +kernel)
set_option maxRecDepth 20000 in
theorem gX7_of_X7_isPart : GoodIn wsX7_of (wsV RX7 70 RX7 yX7_isPart wsX7_isPart) := goodIn_app (goodIn_of _ (by decide +kernel)) ggX7_of_X7_isPart
set_option maxRecDepth 20000 in
theorem ggX7_of_X7_in : GoodIn wsX7_of wsX7_in := goodIn_r _ [14] rfl (by decide +kernel)
set_option maxRecDepth 20000 in
theorem gX7_of_X7_in : GoodIn wsX7_of (va_wsS RX7 55 yX7_in wsX7_in) := goodIn_app (goodIn_of _ (by decide +kernel)) ggX7_of_X7_in
set_option maxRecDepth 20000 in
theorem ggX7_of_X7_now : GoodIn wsX7_of wsX7_now := goodIn_r _ [18, 11, 5, 1, 70, 71, 72, 73, 74, 75, 76, 77, 78, 79, 80, 81, 82, 83, 84, 85, 86] rfl (by decide +kernel)
set_option maxRecDepth 20000 in
theorem gX7_of_X7_now : GoodIn wsX7_of (wsV RX7 109 RX7 yX7_now wsX7_now) := goodIn_app (goodIn_of _ (by decide +kernel)) ggX7_of_X7_now
set_option maxRecDepth 20000 in
theorem ggX7_of_X7_plans : GoodIn wsX7_of wsX7_plans := goodIn_r _ [22, 11, 5, 23, 24, 25, 9, 26, 27, 28, 29, 30, 31, 32, 33, 34, 4, 35, 36, 37, 38, 39, 40, 41, 42, 43, 44, 45, 46, 47, 48, 49, 50, 51, 2, 52, 53, 54, 55, 56, 57, 58, 59, 60, 61, 70, 71, 72, 73, 74, 75, 76, 77, 78, 79, 80, 81, 82, 83, 84, 85, 86] rfl (by decide +kernel)
set_option maxRecDepth 20000 in
theorem gX7_of_X7_plans : GoodIn wsX7_of (wsV RX7 138 RX7 yX7_plans wsX7_plans) := goodIn_app (goodIn_of _ (by decide +kernel)) ggX7_of_X7_plans
set_option maxRecDepth 20000 in
theorem ggX7_of_X7_settings : GoodIn wsX7_of wsX7_settings := goodIn_r _ [55, 11, 70, 71, 72, 73, 74, 75, 76, 77, 78, 79, 80, 81, 82, 83, 84, 85, 86] rfl (by decide +kernel)
set_option maxRecDepth 20000 in
theorem gX7_of_X7_settings : GoodIn wsX7_of (wsV RX7 76 RX7 yX7_settings wsX7_settings) := goodIn_app (goodIn_of _ (by decide +kernel)) ggX7_of_X7_settings
set_option maxRecDepth 20000 in
theorem ggX7_of_X7_isSuch : GoodIn wsX7_of wsX7_isSuch := goodIn_r _ [65, 11, 27, 28, 29, 9, 30, 5, 70, 71, 72, 73, 74, 75, 76, 77, 78, 79, 80, 81, 82, 83, 84, 85, 86] rfl (by decide +kernel)
set_option maxRecDepth 20000 in
theorem gX7_of_X7_isSuch : GoodIn wsX7_of (wsV RX7 141 RX7 yX7_isSuch wsX7_isSuch) := goodIn_app (goodIn_of _ (by decide +kernel)) ggX7_of_X7_isSuch
set_option maxRecDepth 20000 in
theorem ggX7_of_X7_isGood : GoodIn wsX7_of wsX7_isGood := goodIn_r _ [50, 51, 2, 70, 71, 72, 73, 74, 75, 76, 77, 78, 79, 80, 81, 82, 83, 84, 85, 86] rfl (by decide +kernel)
set_option maxRecDepth 20000 in
theorem gX7_of_X7_isGood : GoodIn wsX7_of (wsV RX7 94 RX7 yX7_isGood wsX7_isGood) := goodIn_app (goodIn_of _ (by decide +kernel)) ggX7_of_X7_isGood
set_option maxRecDepth 20000 in
theorem ggX7_of_X7_weight : GoodIn wsX7_of wsX7_weight := goodIn_r _ [69, 11, 60, 61, 70, 71, 72, 73, 74, 75, 76, 77, 78, 79, 80, 81, 82, 83, 84, 85, 86] rfl (by decide +kernel)
set_option maxRecDepth 20000 in
theorem gX7_of_X7_weight : GoodIn wsX7_of (wsV RX7 144 RX7 yX7_weight wsX7_weight) := goodIn_app (goodIn_of _ (by decide +kernel)) ggX7_of_X7_weight
theorem dX7_of_0 : decode cX7_of 0 = .ok (.aload_n 0, 1) := by decide +kernel
theorem dX7_of_1 : decode cX7_of 1 = .ok (.iload_n 1, 1) := by decide +kernel
theorem dX7_of_2 : decode cX7_of 2 = .ok (.invokevirtual 70, 3) := by decide +kernel
theorem dX7_of_5 : decode cX7_of 5 = .ok (.ifCond .eq 30, 3) := by decide +kernel
theorem dX7_of_8 : decode cX7_of 8 = .ok (.iload_n 2, 1) := by decide +kernel
theorem dX7_of_9 : decode cX7_of 9 = .ok (.i2l, 1) := by decide +kernel
theorem dX7_of_10 : decode cX7_of 10 = .ok (.lconst 0, 1) := by decide +kernel
theorem dX7_of_11 : decode cX7_of 11 = .ok (.lconst 1, 1) := by decide +kernel
theorem dX7_of_12 : decode cX7_of 12 = .ok (.invokestatic 55, 3) := by decide +kernel
theorem dX7_of_15 : decode cX7_of 15 = .ok (.ifCond .eq 20, 3) := by decide +kernel
theorem dX7_of_18 : decode cX7_of 18 = .ok (.aload_n 0, 1) := by decide +kernel
theorem dX7_of_19 : decode cX7_of 19 = .ok (.getfield 30, 3) := by decide +kernel
theorem dX7_of_22 : decode cX7_of 22 = .ok (.iload_n 1, 1) := by decide +kernel
theorem dX7_of_23 : decode cX7_of 23 = .ok (.iaload, 1) := by decide +kernel
theorem dX7_of_24 : decode cX7_of 24 = .ok (.iconst (-1), 1) := by decide +kernel
theorem dX7_of_25 : decode cX7_of 25 = .ok (.if_icmp .ne 10, 3) := by decide +kernel
theorem dX7_of_28 : decode cX7_of 28 = .ok (.aload_n 0, 1) := by decide +kernel
theorem dX7_of_29 : decode cX7_of 29 = .ok (.getfield 27, 3) := by decide +kernel
theorem dX7_of_32 : decode cX7_of 32 = .ok (.ifCond .ge 7, 3) := by decide +kernel
theorem dX7_of_35 : decode cX7_of 35 = .ok (.ldc2_w 132, 3) := by decide +kernel
theorem dX7_of_38 : decode cX7_of 38 = .ok (.lreturn, 1) := by decide +kernel
theorem dX7_of_39 : decode cX7_of 39 = .ok (.aload_n 0, 1) := by decide +kernel
theorem dX7_of_40 : decode cX7_of 40 = .ok (.invokevirtual 109, 3) := by decide +kernel
theorem dX7_of_43 : decode cX7_of 43 = .ok (.istore_n 3, 1) := by decide +kernel
theorem dX7_of_44 : decode cX7_of 44 = .ok (.iload_n 2, 1) := by decide +kernel
theorem dX7_of_45 : decode cX7_of 45 = .ok (.ifCond .ne 44, 3) := by decide +kernel
theorem dX7_of_48 : decode cX7_of 48 = .ok (.aload_n 0, 1) := by decide +kernel
theorem dX7_of_49 : decode cX7_of 49 = .ok (.invokevirtual 138, 3) := by decide +kernel
theorem dX7_of_52 : decode cX7_of 52 = .ok (.aload_n 0, 1) := by decide +kernel
theorem dX7_of_53 : decode cX7_of 53 = .ok (.getfield 39, 3) := by decide +kernel
theorem dX7_of_56 : decode cX7_of 56 = .ok (.iload_n 3, 1) := by decide +kernel
theorem dX7_of_57 : decode cX7_of 57 = .ok (.laload, 1) := by decide +kernel
theorem dX7_of_58 : decode cX7_of 58 = .ok (.aload_n 0, 1) := by decide +kernel
theorem dX7_of_59 : decode cX7_of 59 = .ok (.getfield 39, 3) := by decide +kernel
theorem dX7_of_62 : decode cX7_of 62 = .ok (.iload_n 3, 1) := by decide +kernel
theorem dX7_of_63 : decode cX7_of 63 = .ok (.aload_n 0, 1) := by decide +kernel
theorem dX7_of_64 : decode cX7_of 64 = .ok (.getfield 52, 3) := by decide +kernel
theorem dX7_of_67 : decode cX7_of 67 = .ok (.iload_n 1, 1) := by decide +kernel
theorem dX7_of_68 : decode cX7_of 68 = .ok (.iaload, 1) := by decide +kernel
theorem dX7_of_69 : decode cX7_of 69 = .ok (.iadd, 1) := by decide +kernel
theorem dX7_of_70 : decode cX7_of 70 = .ok (.laload, 1) := by decide +kernel
theorem dX7_of_71 : decode cX7_of 71 = .ok (.lsub, 1) := by decide +kernel
theorem dX7_of_72 : decode cX7_of 72 = .ok (.aload_n 0, 1) := by decide +kernel
theorem dX7_of_73 : decode cX7_of 73 = .ok (.getfield 39, 3) := by decide +kernel
theorem dX7_of_76 : decode cX7_of 76 = .ok (.iload_n 3, 1) := by decide +kernel
theorem dX7_of_77 : decode cX7_of 77 = .ok (.iconst 2, 1) := by decide +kernel
theorem dX7_of_78 : decode cX7_of 78 = .ok (.aload_n 0, 1) := by decide +kernel
theorem dX7_of_79 : decode cX7_of 79 = .ok (.getfield 52, 3) := by decide +kernel
theorem dX7_of_82 : decode cX7_of 82 = .ok (.iload_n 1, 1) := by decide +kernel
theorem dX7_of_83 : decode cX7_of 83 = .ok (.iaload, 1) := by decide +kernel
theorem dX7_of_84 : decode cX7_of 84 = .ok (.imul, 1) := by decide +kernel
theorem dX7_of_85 : decode cX7_of 85 = .ok (.iadd, 1) := by decide +kernel
theorem dX7_of_86 : decode cX7_of 86 = .ok (.laload, 1) := by decide +kernel
theorem dX7_of_87 : decode cX7_of 87 = .ok (.lsub, 1) := by decide +kernel
theorem dX7_of_88 : decode cX7_of 88 = .ok (.lreturn, 1) := by decide +kernel
theorem dX7_of_89 : decode cX7_of 89 = .ok (.lconst 0, 1) := by decide +kernel
theorem dX7_of_90 : decode cX7_of 90 = .ok (.lstore 4, 2) := by decide +kernel
theorem dX7_of_92 : decode cX7_of 92 = .ok (.iconst 0, 1) := by decide +kernel
theorem dX7_of_93 : decode cX7_of 93 = .ok (.istore 6, 2) := by decide +kernel
theorem dX7_of_95 : decode cX7_of 95 = .ok (.iload 6, 2) := by decide +kernel
theorem dX7_of_97 : decode cX7_of 97 = .ok (.aload_n 0, 1) := by decide +kernel
theorem dX7_of_98 : decode cX7_of 98 = .ok (.invokevirtual 76, 3) := by decide +kernel
theorem dX7_of_101 : decode cX7_of 101 = .ok (.if_icmp .ge 53, 3) := by decide +kernel
theorem dX7_of_104 : decode cX7_of 104 = .ok (.lload 4, 2) := by decide +kernel
theorem dX7_of_106 : decode cX7_of 106 = .ok (.aload_n 0, 1) := by decide +kernel
theorem dX7_of_107 : decode cX7_of 107 = .ok (.iload 6, 2) := by decide +kernel
theorem dX7_of_109 : decode cX7_of 109 = .ok (.iload_n 3, 1) := by decide +kernel
theorem dX7_of_110 : decode cX7_of 110 = .ok (.invokevirtual 141, 3) := by decide +kernel
theorem dX7_of_113 : decode cX7_of 113 = .ok (.ifCond .eq 31, 3) := by decide +kernel
theorem dX7_of_116 : decode cX7_of 116 = .ok (.aload_n 0, 1) := by decide +kernel
theorem dX7_of_117 : decode cX7_of 117 = .ok (.iload 6, 2) := by decide +kernel
theorem dX7_of_119 : decode cX7_of 119 = .ok (.invokevirtual 94, 3) := by decide +kernel
theorem dX7_of_122 : decode cX7_of 122 = .ok (.aload_n 0, 1) := by decide +kernel
theorem dX7_of_123 : decode cX7_of 123 = .ok (.iload 6, 2) := by decide +kernel
theorem dX7_of_125 : decode cX7_of 125 = .ok (.iconst 1, 1) := by decide +kernel
theorem dX7_of_126 : decode cX7_of 126 = .ok (.iload_n 1, 1) := by decide +kernel
theorem dX7_of_127 : decode cX7_of 127 = .ok (.ishl, 1) := by decide +kernel
theorem dX7_of_128 : decode cX7_of 128 = .ok (.ixor, 1) := by decide +kernel
theorem dX7_of_129 : decode cX7_of 129 = .ok (.invokevirtual 94, 3) := by decide +kernel
theorem dX7_of_132 : decode cX7_of 132 = .ok (.if_icmp .eq 12, 3) := by decide +kernel
theorem dX7_of_135 : decode cX7_of 135 = .ok (.aload_n 0, 1) := by decide +kernel
theorem dX7_of_136 : decode cX7_of 136 = .ok (.iload 6, 2) := by decide +kernel
theorem dX7_of_138 : decode cX7_of 138 = .ok (.invokevirtual 144, 3) := by decide +kernel
theorem dX7_of_141 : decode cX7_of 141 = .ok (.goto 4, 3) := by decide +kernel
theorem dX7_of_144 : decode cX7_of 144 = .ok (.lconst 0, 1) := by decide +kernel
theorem dX7_of_145 : decode cX7_of 145 = .ok (.ladd, 1) := by decide +kernel
theorem dX7_of_146 : decode cX7_of 146 = .ok (.lstore 4, 2) := by decide +kernel
theorem dX7_of_148 : decode cX7_of 148 = .ok (.iinc 6 1, 3) := by decide +kernel
theorem dX7_of_151 : decode cX7_of 151 = .ok (.goto (-56), 3) := by decide +kernel
theorem dX7_of_154 : decode cX7_of 154 = .ok (.lload 4, 2) := by decide +kernel
theorem dX7_of_156 : decode cX7_of 156 = .ok (.lreturn, 1) := by decide +kernel
theorem dX7_placeOf_0 : decode cX7_placeOf 0 = .ok (.iconst (-1), 1) := by decide +kernel
theorem dX7_placeOf_1 : decode cX7_placeOf 1 = .ok (.istore_n 2, 1) := by decide +kernel
theorem dX7_placeOf_2 : decode cX7_placeOf 2 = .ok (.iconst 0, 1) := by decide +kernel
theorem dX7_placeOf_3 : decode cX7_placeOf 3 = .ok (.istore_n 3, 1) := by decide +kernel
theorem dX7_placeOf_4 : decode cX7_placeOf 4 = .ok (.iload_n 3, 1) := by decide +kernel
theorem dX7_placeOf_5 : decode cX7_placeOf 5 = .ok (.aload_n 0, 1) := by decide +kernel
theorem dX7_placeOf_6 : decode cX7_placeOf 6 = .ok (.getfield 64, 3) := by decide +kernel
theorem dX7_placeOf_9 : decode cX7_placeOf 9 = .ok (.if_icmp .ge 25, 3) := by decide +kernel
theorem dX7_placeOf_12 : decode cX7_placeOf 12 = .ok (.aload_n 0, 1) := by decide +kernel
theorem dX7_placeOf_13 : decode cX7_placeOf 13 = .ok (.getfield 33, 3) := by decide +kernel
theorem dX7_placeOf_16 : decode cX7_placeOf 16 = .ok (.iload_n 3, 1) := by decide +kernel
theorem dX7_placeOf_17 : decode cX7_placeOf 17 = .ok (.iaload, 1) := by decide +kernel
theorem dX7_placeOf_18 : decode cX7_placeOf 18 = .ok (.iload_n 1, 1) := by decide +kernel
theorem dX7_placeOf_19 : decode cX7_placeOf 19 = .ok (.if_icmp .ne 7, 3) := by decide +kernel
theorem dX7_placeOf_22 : decode cX7_placeOf 22 = .ok (.iload_n 3, 1) := by decide +kernel
theorem dX7_placeOf_23 : decode cX7_placeOf 23 = .ok (.goto 4, 3) := by decide +kernel
theorem dX7_placeOf_26 : decode cX7_placeOf 26 = .ok (.iload_n 2, 1) := by decide +kernel
theorem dX7_placeOf_27 : decode cX7_placeOf 27 = .ok (.istore_n 2, 1) := by decide +kernel
theorem dX7_placeOf_28 : decode cX7_placeOf 28 = .ok (.iinc 3 1, 3) := by decide +kernel
theorem dX7_placeOf_31 : decode cX7_placeOf 31 = .ok (.goto (-27), 3) := by decide +kernel
theorem dX7_placeOf_34 : decode cX7_placeOf 34 = .ok (.iload_n 2, 1) := by decide +kernel
theorem dX7_placeOf_35 : decode cX7_placeOf 35 = .ok (.ireturn, 1) := by decide +kernel
set_option maxRecDepth 20000 in
theorem ggX7_order_X7_isPart : GoodIn wsX7_order wsX7_isPart := goodIn_r _ [7, 8, 9, 10, 6, 11, 16, 17, 18, 19, 20, 21, 22, 23, 24, 25, 26, 27, 28, 29, 30, 31, 32] rfl (by decide +kernel)
set_option maxRecDepth 20000 in
theorem gX7_order_X7_isPart : GoodIn wsX7_order (wsV RX7 70 RX7 yX7_isPart wsX7_isPart) := goodIn_app (goodIn_of _ (by decide +kernel)) ggX7_order_X7_isPart
set_option maxRecDepth 20000 in
theorem ggX7_order_X7_placeOf : GoodIn wsX7_order wsX7_placeOf := goodIn_r _ [15, 2, 1, 16, 17, 18, 19, 20, 21, 22, 23, 24, 25, 26, 27, 28, 29, 30, 31, 32] rfl (by decide +kernel)
set_option maxRecDepth 20000 in
theorem gX7_order_X7_placeOf : GoodIn wsX7_order (wsV RX7 153 RX7 yX7_placeOf wsX7_placeOf) := goodIn_app (goodIn_of _ (by decide +kernel)) ggX7_order_X7_placeOf
theorem dX7_order_0 : decode cX7_order 0 = .ok (.aload_n 0, 1) := by decide +kernel
theorem dX7_order_1 : decode cX7_order 1 = .ok (.iload_n 1, 1) := by decide +kernel
theorem dX7_order_2 : decode cX7_order 2 = .ok (.invokevirtual 70, 3) := by decide +kernel
theorem dX7_order_5 : decode cX7_order 5 = .ok (.ifCond .eq 11, 3) := by decide +kernel
theorem dX7_order_8 : decode cX7_order 8 = .ok (.aload_n 0, 1) := by decide +kernel
theorem dX7_order_9 : decode cX7_order 9 = .ok (.iload_n 1, 1) := by decide +kernel
theorem dX7_order_10 : decode cX7_order 10 = .ok (.invokevirtual 153, 3) := by decide +kernel
theorem dX7_order_13 : decode cX7_order 13 = .ok (.ifCond .lt 5, 3) := by decide +kernel
theorem dX7_order_16 : decode cX7_order 16 = .ok (.iconst (-1), 1) := by decide +kernel
theorem dX7_order_17 : decode cX7_order 17 = .ok (.ireturn, 1) := by decide +kernel
theorem dX7_order_18 : decode cX7_order 18 = .ok (.aload_n 0, 1) := by decide +kernel
theorem dX7_order_19 : decode cX7_order 19 = .ok (.getfield 33, 3) := by decide +kernel
theorem dX7_order_22 : decode cX7_order 22 = .ok (.aload_n 0, 1) := by decide +kernel
theorem dX7_order_23 : decode cX7_order 23 = .ok (.getfield 64, 3) := by decide +kernel
theorem dX7_order_26 : decode cX7_order 26 = .ok (.iload_n 1, 1) := by decide +kernel
theorem dX7_order_27 : decode cX7_order 27 = .ok (.iastore, 1) := by decide +kernel
theorem dX7_order_28 : decode cX7_order 28 = .ok (.aload_n 0, 1) := by decide +kernel
theorem dX7_order_29 : decode cX7_order 29 = .ok (.dup, 1) := by decide +kernel
theorem dX7_order_30 : decode cX7_order 30 = .ok (.getfield 64, 3) := by decide +kernel
theorem dX7_order_33 : decode cX7_order 33 = .ok (.iconst 1, 1) := by decide +kernel
theorem dX7_order_34 : decode cX7_order 34 = .ok (.iadd, 1) := by decide +kernel
theorem dX7_order_35 : decode cX7_order 35 = .ok (.putfield 64, 3) := by decide +kernel
theorem dX7_order_38 : decode cX7_order 38 = .ok (.aload_n 0, 1) := by decide +kernel
theorem dX7_order_39 : decode cX7_order 39 = .ok (.getfield 64, 3) := by decide +kernel
theorem dX7_order_42 : decode cX7_order 42 = .ok (.ireturn, 1) := by decide +kernel
set_option maxRecDepth 20000 in
theorem ggX7_ratios_X7_placeOf : GoodIn wsX7_ratios wsX7_placeOf := goodIn_r _ [8, 1, 3, 20, 21, 22, 23, 24, 25, 26, 27, 28, 29, 30, 31, 32, 33, 34, 35, 36] rfl (by decide +kernel)
set_option maxRecDepth 20000 in
theorem gX7_ratios_X7_placeOf : GoodIn wsX7_ratios (wsV RX7 153 RX7 yX7_placeOf wsX7_placeOf) := goodIn_app (goodIn_of _ (by decide +kernel)) ggX7_ratios_X7_placeOf
set_option maxRecDepth 20000 in
theorem ggX7_ratios_X7_ratioUp : GoodIn wsX7_ratios wsX7_ratioUp := goodIn_r _ [12, 13, 14, 15, 20, 21, 22, 23, 24, 25, 26, 27, 28, 29, 30, 31, 32, 33, 34, 35, 36] rfl (by decide +kernel)
set_option maxRecDepth 20000 in
theorem gX7_ratios_X7_ratioUp : GoodIn wsX7_ratios (wsV RX7 156 RX7 yX7_ratioUp wsX7_ratioUp) := goodIn_app (goodIn_of _ (by decide +kernel)) ggX7_ratios_X7_ratioUp
set_option maxRecDepth 20000 in
theorem ggX7_ratios_X7_down : GoodIn wsX7_ratios wsX7_down := goodIn_r _ [19, 14, 15, 20, 21, 22, 23, 24, 25, 26, 27, 28, 29, 30, 31, 32, 33, 34, 35, 36] rfl (by decide +kernel)
set_option maxRecDepth 20000 in
theorem gX7_ratios_X7_down : GoodIn wsX7_ratios (wsV RX7 159 RX7 yX7_down wsX7_down) := goodIn_app (goodIn_of _ (by decide +kernel)) ggX7_ratios_X7_down
theorem dX7_ratios_0 : decode cX7_ratios 0 = .ok (.aload_n 0, 1) := by decide +kernel
theorem dX7_ratios_1 : decode cX7_ratios 1 = .ok (.iconst 0, 1) := by decide +kernel
theorem dX7_ratios_2 : decode cX7_ratios 2 = .ok (.putfield 64, 3) := by decide +kernel
theorem dX7_ratios_5 : decode cX7_ratios 5 = .ok (.iload_n 2, 1) := by decide +kernel
theorem dX7_ratios_6 : decode cX7_ratios 6 = .ok (.ifCond .ne 103, 3) := by decide +kernel
theorem dX7_ratios_9 : decode cX7_ratios 9 = .ok (.aload_n 0, 1) := by decide +kernel
theorem dX7_ratios_10 : decode cX7_ratios 10 = .ok (.getfield 64, 3) := by decide +kernel
theorem dX7_ratios_13 : decode cX7_ratios 13 = .ok (.aload_n 0, 1) := by decide +kernel
theorem dX7_ratios_14 : decode cX7_ratios 14 = .ok (.getfield 7, 3) := by decide +kernel
theorem dX7_ratios_17 : decode cX7_ratios 17 = .ok (.if_icmp .ge 92, 3) := by decide +kernel
theorem dX7_ratios_20 : decode cX7_ratios 20 = .ok (.iconst (-1), 1) := by decide +kernel
theorem dX7_ratios_21 : decode cX7_ratios 21 = .ok (.istore_n 3, 1) := by decide +kernel
theorem dX7_ratios_22 : decode cX7_ratios 22 = .ok (.iconst 0, 1) := by decide +kernel
theorem dX7_ratios_23 : decode cX7_ratios 23 = .ok (.istore 4, 2) := by decide +kernel
theorem dX7_ratios_25 : decode cX7_ratios 25 = .ok (.iload 4, 2) := by decide +kernel
theorem dX7_ratios_27 : decode cX7_ratios 27 = .ok (.aload_n 0, 1) := by decide +kernel
theorem dX7_ratios_28 : decode cX7_ratios 28 = .ok (.getfield 7, 3) := by decide +kernel
theorem dX7_ratios_31 : decode cX7_ratios 31 = .ok (.if_icmp .ge 55, 3) := by decide +kernel
theorem dX7_ratios_34 : decode cX7_ratios 34 = .ok (.aload_n 0, 1) := by decide +kernel
theorem dX7_ratios_35 : decode cX7_ratios 35 = .ok (.iload 4, 2) := by decide +kernel
theorem dX7_ratios_37 : decode cX7_ratios 37 = .ok (.invokevirtual 153, 3) := by decide +kernel
theorem dX7_ratios_40 : decode cX7_ratios 40 = .ok (.ifCond .ge 40, 3) := by decide +kernel
theorem dX7_ratios_43 : decode cX7_ratios 43 = .ok (.iload_n 3, 1) := by decide +kernel
theorem dX7_ratios_44 : decode cX7_ratios 44 = .ok (.iconst (-1), 1) := by decide +kernel
theorem dX7_ratios_45 : decode cX7_ratios 45 = .ok (.if_icmp .eq 32, 3) := by decide +kernel
theorem dX7_ratios_48 : decode cX7_ratios 48 = .ok (.aload_n 0, 1) := by decide +kernel
theorem dX7_ratios_49 : decode cX7_ratios 49 = .ok (.iload 4, 2) := by decide +kernel
theorem dX7_ratios_51 : decode cX7_ratios 51 = .ok (.invokevirtual 156, 3) := by decide +kernel
theorem dX7_ratios_54 : decode cX7_ratios 54 = .ok (.aload_n 0, 1) := by decide +kernel
theorem dX7_ratios_55 : decode cX7_ratios 55 = .ok (.iload_n 3, 1) := by decide +kernel
theorem dX7_ratios_56 : decode cX7_ratios 56 = .ok (.iload_n 1, 1) := by decide +kernel
theorem dX7_ratios_57 : decode cX7_ratios 57 = .ok (.invokevirtual 159, 3) := by decide +kernel
theorem dX7_ratios_60 : decode cX7_ratios 60 = .ok (.imul, 1) := by decide +kernel
theorem dX7_ratios_61 : decode cX7_ratios 61 = .ok (.aload_n 0, 1) := by decide +kernel
theorem dX7_ratios_62 : decode cX7_ratios 62 = .ok (.iload_n 3, 1) := by decide +kernel
theorem dX7_ratios_63 : decode cX7_ratios 63 = .ok (.invokevirtual 156, 3) := by decide +kernel
theorem dX7_ratios_66 : decode cX7_ratios 66 = .ok (.aload_n 0, 1) := by decide +kernel
theorem dX7_ratios_67 : decode cX7_ratios 67 = .ok (.iload 4, 2) := by decide +kernel
theorem dX7_ratios_69 : decode cX7_ratios 69 = .ok (.iload_n 1, 1) := by decide +kernel
theorem dX7_ratios_70 : decode cX7_ratios 70 = .ok (.invokevirtual 159, 3) := by decide +kernel
theorem dX7_ratios_73 : decode cX7_ratios 73 = .ok (.imul, 1) := by decide +kernel
theorem dX7_ratios_74 : decode cX7_ratios 74 = .ok (.if_icmp .ge 6, 3) := by decide +kernel
theorem dX7_ratios_77 : decode cX7_ratios 77 = .ok (.iload 4, 2) := by decide +kernel
theorem dX7_ratios_79 : decode cX7_ratios 79 = .ok (.istore_n 3, 1) := by decide +kernel
theorem dX7_ratios_80 : decode cX7_ratios 80 = .ok (.iinc 4 1, 3) := by decide +kernel
theorem dX7_ratios_83 : decode cX7_ratios 83 = .ok (.goto (-58), 3) := by decide +kernel
theorem dX7_ratios_86 : decode cX7_ratios 86 = .ok (.aload_n 0, 1) := by decide +kernel
theorem dX7_ratios_87 : decode cX7_ratios 87 = .ok (.getfield 33, 3) := by decide +kernel
theorem dX7_ratios_90 : decode cX7_ratios 90 = .ok (.aload_n 0, 1) := by decide +kernel
