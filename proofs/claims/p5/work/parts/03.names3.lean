theorem dX3_init_0 : decode cX3_init 0 = .ok (.aload_n 0, 1) := by decide +kernel
theorem dX3_init_1 : decode cX3_init 1 = .ok (.invokespecial 3, 3) := by decide +kernel
theorem dX3_init_4 : decode cX3_init 4 = .ok (.aload_n 0, 1) := by decide +kernel
theorem dX3_init_5 : decode cX3_init 5 = .ok (.sipush 320, 3) := by decide +kernel
theorem dX3_init_8 : decode cX3_init 8 = .ok (.newarray .long, 2) := by decide +kernel
theorem dX3_init_10 : decode cX3_init 10 = .ok (.putfield 11, 3) := by decide +kernel
theorem dX3_init_13 : decode cX3_init 13 = .ok (.aload_n 0, 1) := by decide +kernel
theorem dX3_init_14 : decode cX3_init 14 = .ok (.bipush 9, 2) := by decide +kernel
theorem dX3_init_16 : decode cX3_init 16 = .ok (.newarray .int, 2) := by decide +kernel
theorem dX3_init_18 : decode cX3_init 18 = .ok (.putfield 15, 3) := by decide +kernel
theorem dX3_init_21 : decode cX3_init 21 = .ok (.aload_n 0, 1) := by decide +kernel
theorem dX3_init_22 : decode cX3_init 22 = .ok (.iconst 1, 1) := by decide +kernel
theorem dX3_init_23 : decode cX3_init 23 = .ok (.invokevirtual 19, 3) := by decide +kernel
theorem dX3_init_26 : decode cX3_init 26 = .ok (.return_, 1) := by decide +kernel
theorem dX3_begin_0 : decode cX3_begin 0 = .ok (.aload_n 0, 1) := by decide +kernel
theorem dX3_begin_1 : decode cX3_begin 1 = .ok (.iload_n 1, 1) := by decide +kernel
theorem dX3_begin_2 : decode cX3_begin 2 = .ok (.putfield 23, 3) := by decide +kernel
theorem dX3_begin_5 : decode cX3_begin 5 = .ok (.aload_n 0, 1) := by decide +kernel
theorem dX3_begin_6 : decode cX3_begin 6 = .ok (.iconst 0, 1) := by decide +kernel
theorem dX3_begin_7 : decode cX3_begin 7 = .ok (.putfield 27, 3) := by decide +kernel
theorem dX3_begin_10 : decode cX3_begin 10 = .ok (.aload_n 0, 1) := by decide +kernel
theorem dX3_begin_11 : decode cX3_begin 11 = .ok (.iconst (-1), 1) := by decide +kernel
theorem dX3_begin_12 : decode cX3_begin 12 = .ok (.putfield 30, 3) := by decide +kernel
theorem dX3_begin_15 : decode cX3_begin 15 = .ok (.return_, 1) := by decide +kernel
theorem dX3_has_0 : decode cX3_has 0 = .ok (.iload_n 1, 1) := by decide +kernel
theorem dX3_has_1 : decode cX3_has 1 = .ok (.ifCond .lt 15, 3) := by decide +kernel
theorem dX3_has_4 : decode cX3_has 4 = .ok (.iload_n 1, 1) := by decide +kernel
theorem dX3_has_5 : decode cX3_has 5 = .ok (.aload_n 0, 1) := by decide +kernel
theorem dX3_has_6 : decode cX3_has 6 = .ok (.getfield 27, 3) := by decide +kernel
theorem dX3_has_9 : decode cX3_has 9 = .ok (.if_icmp .ge 7, 3) := by decide +kernel
theorem dX3_has_12 : decode cX3_has 12 = .ok (.iconst 1, 1) := by decide +kernel
theorem dX3_has_13 : decode cX3_has 13 = .ok (.goto 4, 3) := by decide +kernel
theorem dX3_has_16 : decode cX3_has 16 = .ok (.iconst 0, 1) := by decide +kernel
theorem dX3_has_17 : decode cX3_has 17 = .ok (.ireturn, 1) := by decide +kernel
theorem dX3_hasRoom_0 : decode cX3_hasRoom 0 = .ok (.aload_n 0, 1) := by decide +kernel
theorem dX3_hasRoom_1 : decode cX3_hasRoom 1 = .ok (.getfield 27, 3) := by decide +kernel
theorem dX3_hasRoom_4 : decode cX3_hasRoom 4 = .ok (.bipush 40, 2) := by decide +kernel
theorem dX3_hasRoom_6 : decode cX3_hasRoom 6 = .ok (.if_icmp .ge 7, 3) := by decide +kernel
theorem dX3_hasRoom_9 : decode cX3_hasRoom 9 = .ok (.iconst 1, 1) := by decide +kernel
theorem dX3_hasRoom_10 : decode cX3_hasRoom 10 = .ok (.goto 4, 3) := by decide +kernel
theorem dX3_hasRoom_13 : decode cX3_hasRoom 13 = .ok (.iconst 0, 1) := by decide +kernel
theorem dX3_hasRoom_14 : decode cX3_hasRoom 14 = .ok (.ireturn, 1) := by decide +kernel
set_option maxRecDepth 20000 in
theorem ggX3_hasSystem_X3_has : GoodIn wsX3_hasSystem wsX3_has := goodIn_r _ [6, 7, 8, 9, 10, 11, 12] rfl (by decide +kernel)
set_option maxRecDepth 20000 in
theorem gX3_hasSystem_X3_has : GoodIn wsX3_hasSystem (wsV RX3 33 RX3 yX3_has wsX3_has) := goodIn_app (goodIn_of _ (by decide +kernel)) ggX3_hasSystem_X3_has
theorem dX3_hasSystem_0 : decode cX3_hasSystem 0 = .ok (.aload_n 0, 1) := by decide +kernel
theorem dX3_hasSystem_1 : decode cX3_hasSystem 1 = .ok (.aload_n 0, 1) := by decide +kernel
theorem dX3_hasSystem_2 : decode cX3_hasSystem 2 = .ok (.getfield 30, 3) := by decide +kernel
theorem dX3_hasSystem_5 : decode cX3_hasSystem 5 = .ok (.invokevirtual 33, 3) := by decide +kernel
theorem dX3_hasSystem_8 : decode cX3_hasSystem 8 = .ok (.ireturn, 1) := by decide +kernel
theorem dX3_isGood_0 : decode cX3_isGood 0 = .ok (.aload_n 0, 1) := by decide +kernel
theorem dX3_isGood_1 : decode cX3_isGood 1 = .ok (.getfield 11, 3) := by decide +kernel
theorem dX3_isGood_4 : decode cX3_isGood 4 = .ok (.iload_n 1, 1) := by decide +kernel
theorem dX3_isGood_5 : decode cX3_isGood 5 = .ok (.bipush 8, 2) := by decide +kernel
theorem dX3_isGood_7 : decode cX3_isGood 7 = .ok (.imul, 1) := by decide +kernel
theorem dX3_isGood_8 : decode cX3_isGood 8 = .ok (.iload_n 2, 1) := by decide +kernel
theorem dX3_isGood_9 : decode cX3_isGood 9 = .ok (.bipush 6, 2) := by decide +kernel
theorem dX3_isGood_11 : decode cX3_isGood 11 = .ok (.ishr, 1) := by decide +kernel
theorem dX3_isGood_12 : decode cX3_isGood 12 = .ok (.iadd, 1) := by decide +kernel
theorem dX3_isGood_13 : decode cX3_isGood 13 = .ok (.laload, 1) := by decide +kernel
theorem dX3_isGood_14 : decode cX3_isGood 14 = .ok (.iload_n 2, 1) := by decide +kernel
theorem dX3_isGood_15 : decode cX3_isGood 15 = .ok (.bipush 63, 2) := by decide +kernel
theorem dX3_isGood_17 : decode cX3_isGood 17 = .ok (.iand, 1) := by decide +kernel
theorem dX3_isGood_18 : decode cX3_isGood 18 = .ok (.lushr, 1) := by decide +kernel
theorem dX3_isGood_19 : decode cX3_isGood 19 = .ok (.lconst 1, 1) := by decide +kernel
theorem dX3_isGood_20 : decode cX3_isGood 20 = .ok (.land, 1) := by decide +kernel
theorem dX3_isGood_21 : decode cX3_isGood 21 = .ok (.lconst 0, 1) := by decide +kernel
theorem dX3_isGood_22 : decode cX3_isGood 22 = .ok (.lcmp, 1) := by decide +kernel
theorem dX3_isGood_23 : decode cX3_isGood 23 = .ok (.ifCond .eq 7, 3) := by decide +kernel
theorem dX3_isGood_26 : decode cX3_isGood 26 = .ok (.iconst 1, 1) := by decide +kernel
theorem dX3_isGood_27 : decode cX3_isGood 27 = .ok (.goto 4, 3) := by decide +kernel
theorem dX3_isGood_30 : decode cX3_isGood 30 = .ok (.iconst 0, 1) := by decide +kernel
theorem dX3_isGood_31 : decode cX3_isGood 31 = .ok (.ireturn, 1) := by decide +kernel
set_option maxRecDepth 20000 in
theorem ggX3_isSystemGood_X3_isGood : GoodIn wsX3_isSystemGood wsX3_isGood := goodIn_r _ [6, 7, 8, 9, 10, 11, 12] rfl (by decide +kernel)
set_option maxRecDepth 20000 in
theorem gX3_isSystemGood_X3_isGood : GoodIn wsX3_isSystemGood (wsV RX3 37 RX3 yX3_isGood wsX3_isGood) := goodIn_app (goodIn_of _ (by decide +kernel)) ggX3_isSystemGood_X3_isGood
theorem dX3_isSystemGood_0 : decode cX3_isSystemGood 0 = .ok (.aload_n 0, 1) := by decide +kernel
theorem dX3_isSystemGood_1 : decode cX3_isSystemGood 1 = .ok (.aload_n 0, 1) := by decide +kernel
theorem dX3_isSystemGood_2 : decode cX3_isSystemGood 2 = .ok (.getfield 30, 3) := by decide +kernel
theorem dX3_isSystemGood_5 : decode cX3_isSystemGood 5 = .ok (.iload_n 1, 1) := by decide +kernel
theorem dX3_isSystemGood_6 : decode cX3_isSystemGood 6 = .ok (.invokevirtual 37, 3) := by decide +kernel
theorem dX3_isSystemGood_9 : decode cX3_isSystemGood 9 = .ok (.ireturn, 1) := by decide +kernel
set_option maxRecDepth 20000 in
theorem ggX3_verdict_X3_isSystemGood : GoodIn wsX3_verdict wsX3_isSystemGood := goodIn_r _ [5, 6, 7, 8, 9, 4, 10, 11, 12, 13, 14, 15, 16] rfl (by decide +kernel)
set_option maxRecDepth 20000 in
theorem gX3_verdict_X3_isSystemGood : GoodIn wsX3_verdict (wsV RX3 41 RX3 yX3_isSystemGood wsX3_isSystemGood) := goodIn_app (goodIn_of _ (by decide +kernel)) ggX3_verdict_X3_isSystemGood
theorem dX3_verdict_0 : decode cX3_verdict 0 = .ok (.aload_n 0, 1) := by decide +kernel
theorem dX3_verdict_1 : decode cX3_verdict 1 = .ok (.iload_n 1, 1) := by decide +kernel
theorem dX3_verdict_2 : decode cX3_verdict 2 = .ok (.invokevirtual 41, 3) := by decide +kernel
theorem dX3_verdict_5 : decode cX3_verdict 5 = .ok (.ifCond .eq 5, 3) := by decide +kernel
theorem dX3_verdict_8 : decode cX3_verdict 8 = .ok (.iconst 1, 1) := by decide +kernel
theorem dX3_verdict_9 : decode cX3_verdict 9 = .ok (.ireturn, 1) := by decide +kernel
theorem dX3_verdict_10 : decode cX3_verdict 10 = .ok (.aload_n 0, 1) := by decide +kernel
theorem dX3_verdict_11 : decode cX3_verdict 11 = .ok (.iload_n 1, 1) := by decide +kernel
theorem dX3_verdict_12 : decode cX3_verdict 12 = .ok (.iload_n 2, 1) := by decide +kernel
theorem dX3_verdict_13 : decode cX3_verdict 13 = .ok (.ior, 1) := by decide +kernel
theorem dX3_verdict_14 : decode cX3_verdict 14 = .ok (.invokevirtual 41, 3) := by decide +kernel
theorem dX3_verdict_17 : decode cX3_verdict 17 = .ok (.ifCond .eq 7, 3) := by decide +kernel
theorem dX3_verdict_20 : decode cX3_verdict 20 = .ok (.iconst (-1), 1) := by decide +kernel
theorem dX3_verdict_21 : decode cX3_verdict 21 = .ok (.goto 4, 3) := by decide +kernel
theorem dX3_verdict_24 : decode cX3_verdict 24 = .ok (.iconst 0, 1) := by decide +kernel
theorem dX3_verdict_25 : decode cX3_verdict 25 = .ok (.ireturn, 1) := by decide +kernel
set_option maxRecDepth 20000 in
theorem ggX3_addSingle_X3_wipe : GoodIn wsX3_addSingle wsX3_wipe := goodIn_r _ [7, 8, 2, 13, 14, 15, 16, 17] rfl (by decide +kernel)
set_option maxRecDepth 20000 in
theorem gX3_addSingle_X3_wipe : GoodIn wsX3_addSingle (wsV RX3 44 RX3 yX3_wipe wsX3_wipe) := goodIn_app (goodIn_of _ (by decide +kernel)) ggX3_addSingle_X3_wipe
set_option maxRecDepth 20000 in
theorem ggX3_addSingle_X3_mark : GoodIn wsX3_addSingle wsX3_mark := goodIn_r _ [12, 8, 2, 13, 14, 15, 16, 17] rfl (by decide +kernel)
set_option maxRecDepth 20000 in
theorem gX3_addSingle_X3_mark : GoodIn wsX3_addSingle (wsV RX3 47 RX3 yX3_mark wsX3_mark) := goodIn_app (goodIn_of _ (by decide +kernel)) ggX3_addSingle_X3_mark
theorem dX3_addSingle_0 : decode cX3_addSingle 0 = .ok (.aload_n 0, 1) := by decide +kernel
theorem dX3_addSingle_1 : decode cX3_addSingle 1 = .ok (.invokevirtual 44, 3) := by decide +kernel
theorem dX3_addSingle_4 : decode cX3_addSingle 4 = .ok (.iconst 0, 1) := by decide +kernel
theorem dX3_addSingle_5 : decode cX3_addSingle 5 = .ok (.istore_n 2, 1) := by decide +kernel
theorem dX3_addSingle_6 : decode cX3_addSingle 6 = .ok (.iload_n 2, 1) := by decide +kernel
theorem dX3_addSingle_7 : decode cX3_addSingle 7 = .ok (.iconst 1, 1) := by decide +kernel
theorem dX3_addSingle_8 : decode cX3_addSingle 8 = .ok (.aload_n 0, 1) := by decide +kernel
theorem dX3_addSingle_9 : decode cX3_addSingle 9 = .ok (.getfield 23, 3) := by decide +kernel
theorem dX3_addSingle_12 : decode cX3_addSingle 12 = .ok (.ishl, 1) := by decide +kernel
theorem dX3_addSingle_13 : decode cX3_addSingle 13 = .ok (.if_icmp .ge 23, 3) := by decide +kernel
theorem dX3_addSingle_16 : decode cX3_addSingle 16 = .ok (.iload_n 2, 1) := by decide +kernel
theorem dX3_addSingle_17 : decode cX3_addSingle 17 = .ok (.iload_n 1, 1) := by decide +kernel
theorem dX3_addSingle_18 : decode cX3_addSingle 18 = .ok (.ishr, 1) := by decide +kernel
theorem dX3_addSingle_19 : decode cX3_addSingle 19 = .ok (.iconst 1, 1) := by decide +kernel
theorem dX3_addSingle_20 : decode cX3_addSingle 20 = .ok (.iand, 1) := by decide +kernel
theorem dX3_addSingle_21 : decode cX3_addSingle 21 = .ok (.iconst 1, 1) := by decide +kernel
theorem dX3_addSingle_22 : decode cX3_addSingle 22 = .ok (.if_icmp .ne 8, 3) := by decide +kernel
theorem dX3_addSingle_25 : decode cX3_addSingle 25 = .ok (.aload_n 0, 1) := by decide +kernel
theorem dX3_addSingle_26 : decode cX3_addSingle 26 = .ok (.iload_n 2, 1) := by decide +kernel
theorem dX3_addSingle_27 : decode cX3_addSingle 27 = .ok (.invokevirtual 47, 3) := by decide +kernel
theorem dX3_addSingle_30 : decode cX3_addSingle 30 = .ok (.iinc 2 1, 3) := by decide +kernel
theorem dX3_addSingle_33 : decode cX3_addSingle 33 = .ok (.goto (-27), 3) := by decide +kernel
theorem dX3_addSingle_36 : decode cX3_addSingle 36 = .ok (.aload_n 0, 1) := by decide +kernel
theorem dX3_addSingle_37 : decode cX3_addSingle 37 = .ok (.dup, 1) := by decide +kernel
theorem dX3_addSingle_38 : decode cX3_addSingle 38 = .ok (.getfield 27, 3) := by decide +kernel
theorem dX3_addSingle_41 : decode cX3_addSingle 41 = .ok (.dup_x1, 1) := by decide +kernel
theorem dX3_addSingle_42 : decode cX3_addSingle 42 = .ok (.iconst 1, 1) := by decide +kernel
theorem dX3_addSingle_43 : decode cX3_addSingle 43 = .ok (.iadd, 1) := by decide +kernel
theorem dX3_addSingle_44 : decode cX3_addSingle 44 = .ok (.putfield 27, 3) := by decide +kernel
theorem dX3_addSingle_47 : decode cX3_addSingle 47 = .ok (.ireturn, 1) := by decide +kernel
theorem dX3_addRow_0 : decode cX3_addRow 0 = .ok (.iconst 0, 1) := by decide +kernel
theorem dX3_addRow_1 : decode cX3_addRow 1 = .ok (.istore_n 3, 1) := by decide +kernel
theorem dX3_addRow_2 : decode cX3_addRow 2 = .ok (.iload_n 3, 1) := by decide +kernel
theorem dX3_addRow_3 : decode cX3_addRow 3 = .ok (.bipush 8, 2) := by decide +kernel
theorem dX3_addRow_5 : decode cX3_addRow 5 = .ok (.if_icmp .ge 46, 3) := by decide +kernel
theorem dX3_addRow_8 : decode cX3_addRow 8 = .ok (.aload_n 0, 1) := by decide +kernel
theorem dX3_addRow_9 : decode cX3_addRow 9 = .ok (.getfield 11, 3) := by decide +kernel
theorem dX3_addRow_12 : decode cX3_addRow 12 = .ok (.aload_n 0, 1) := by decide +kernel
theorem dX3_addRow_13 : decode cX3_addRow 13 = .ok (.getfield 27, 3) := by decide +kernel
theorem dX3_addRow_16 : decode cX3_addRow 16 = .ok (.bipush 8, 2) := by decide +kernel
theorem dX3_addRow_18 : decode cX3_addRow 18 = .ok (.imul, 1) := by decide +kernel
theorem dX3_addRow_19 : decode cX3_addRow 19 = .ok (.iload_n 3, 1) := by decide +kernel
theorem dX3_addRow_20 : decode cX3_addRow 20 = .ok (.iadd, 1) := by decide +kernel
theorem dX3_addRow_21 : decode cX3_addRow 21 = .ok (.aload_n 0, 1) := by decide +kernel
theorem dX3_addRow_22 : decode cX3_addRow 22 = .ok (.getfield 11, 3) := by decide +kernel
theorem dX3_addRow_25 : decode cX3_addRow 25 = .ok (.iload_n 1, 1) := by decide +kernel
theorem dX3_addRow_26 : decode cX3_addRow 26 = .ok (.bipush 8, 2) := by decide +kernel
theorem dX3_addRow_28 : decode cX3_addRow 28 = .ok (.imul, 1) := by decide +kernel
theorem dX3_addRow_29 : decode cX3_addRow 29 = .ok (.iload_n 3, 1) := by decide +kernel
theorem dX3_addRow_30 : decode cX3_addRow 30 = .ok (.iadd, 1) := by decide +kernel
theorem dX3_addRow_31 : decode cX3_addRow 31 = .ok (.laload, 1) := by decide +kernel
theorem dX3_addRow_32 : decode cX3_addRow 32 = .ok (.aload_n 0, 1) := by decide +kernel
theorem dX3_addRow_33 : decode cX3_addRow 33 = .ok (.getfield 11, 3) := by decide +kernel
theorem dX3_addRow_36 : decode cX3_addRow 36 = .ok (.iload_n 2, 1) := by decide +kernel
theorem dX3_addRow_37 : decode cX3_addRow 37 = .ok (.bipush 8, 2) := by decide +kernel
theorem dX3_addRow_39 : decode cX3_addRow 39 = .ok (.imul, 1) := by decide +kernel
theorem dX3_addRow_40 : decode cX3_addRow 40 = .ok (.iload_n 3, 1) := by decide +kernel
theorem dX3_addRow_41 : decode cX3_addRow 41 = .ok (.iadd, 1) := by decide +kernel
theorem dX3_addRow_42 : decode cX3_addRow 42 = .ok (.laload, 1) := by decide +kernel
theorem dX3_addRow_43 : decode cX3_addRow 43 = .ok (.land, 1) := by decide +kernel
theorem dX3_addRow_44 : decode cX3_addRow 44 = .ok (.lastore, 1) := by decide +kernel
theorem dX3_addRow_45 : decode cX3_addRow 45 = .ok (.iinc 3 1, 3) := by decide +kernel
theorem dX3_addRow_48 : decode cX3_addRow 48 = .ok (.goto (-46), 3) := by decide +kernel
theorem dX3_addRow_51 : decode cX3_addRow 51 = .ok (.aload_n 0, 1) := by decide +kernel
theorem dX3_addRow_52 : decode cX3_addRow 52 = .ok (.dup, 1) := by decide +kernel
theorem dX3_addRow_53 : decode cX3_addRow 53 = .ok (.getfield 27, 3) := by decide +kernel
theorem dX3_addRow_56 : decode cX3_addRow 56 = .ok (.dup_x1, 1) := by decide +kernel
theorem dX3_addRow_57 : decode cX3_addRow 57 = .ok (.iconst 1, 1) := by decide +kernel
theorem dX3_addRow_58 : decode cX3_addRow 58 = .ok (.iadd, 1) := by decide +kernel
theorem dX3_addRow_59 : decode cX3_addRow 59 = .ok (.putfield 27, 3) := by decide +kernel
theorem dX3_addRow_62 : decode cX3_addRow 62 = .ok (.ireturn, 1) := by decide +kernel
theorem dX3_addSide_0 : decode cX3_addSide 0 = .ok (.iconst 0, 1) := by decide +kernel
theorem dX3_addSide_1 : decode cX3_addSide 1 = .ok (.istore_n 3, 1) := by decide +kernel
theorem dX3_addSide_2 : decode cX3_addSide 2 = .ok (.iload_n 3, 1) := by decide +kernel
theorem dX3_addSide_3 : decode cX3_addSide 3 = .ok (.bipush 8, 2) := by decide +kernel
theorem dX3_addSide_5 : decode cX3_addSide 5 = .ok (.if_icmp .ge 46, 3) := by decide +kernel
theorem dX3_addSide_8 : decode cX3_addSide 8 = .ok (.aload_n 0, 1) := by decide +kernel
theorem dX3_addSide_9 : decode cX3_addSide 9 = .ok (.getfield 11, 3) := by decide +kernel
theorem dX3_addSide_12 : decode cX3_addSide 12 = .ok (.aload_n 0, 1) := by decide +kernel
theorem dX3_addSide_13 : decode cX3_addSide 13 = .ok (.getfield 27, 3) := by decide +kernel
theorem dX3_addSide_16 : decode cX3_addSide 16 = .ok (.bipush 8, 2) := by decide +kernel
theorem dX3_addSide_18 : decode cX3_addSide 18 = .ok (.imul, 1) := by decide +kernel
theorem dX3_addSide_19 : decode cX3_addSide 19 = .ok (.iload_n 3, 1) := by decide +kernel
theorem dX3_addSide_20 : decode cX3_addSide 20 = .ok (.iadd, 1) := by decide +kernel
theorem dX3_addSide_21 : decode cX3_addSide 21 = .ok (.aload_n 0, 1) := by decide +kernel
theorem dX3_addSide_22 : decode cX3_addSide 22 = .ok (.getfield 11, 3) := by decide +kernel
theorem dX3_addSide_25 : decode cX3_addSide 25 = .ok (.iload_n 1, 1) := by decide +kernel
theorem dX3_addSide_26 : decode cX3_addSide 26 = .ok (.bipush 8, 2) := by decide +kernel
theorem dX3_addSide_28 : decode cX3_addSide 28 = .ok (.imul, 1) := by decide +kernel
theorem dX3_addSide_29 : decode cX3_addSide 29 = .ok (.iload_n 3, 1) := by decide +kernel
theorem dX3_addSide_30 : decode cX3_addSide 30 = .ok (.iadd, 1) := by decide +kernel
theorem dX3_addSide_31 : decode cX3_addSide 31 = .ok (.laload, 1) := by decide +kernel
theorem dX3_addSide_32 : decode cX3_addSide 32 = .ok (.aload_n 0, 1) := by decide +kernel
theorem dX3_addSide_33 : decode cX3_addSide 33 = .ok (.getfield 11, 3) := by decide +kernel
theorem dX3_addSide_36 : decode cX3_addSide 36 = .ok (.iload_n 2, 1) := by decide +kernel
theorem dX3_addSide_37 : decode cX3_addSide 37 = .ok (.bipush 8, 2) := by decide +kernel
theorem dX3_addSide_39 : decode cX3_addSide 39 = .ok (.imul, 1) := by decide +kernel
theorem dX3_addSide_40 : decode cX3_addSide 40 = .ok (.iload_n 3, 1) := by decide +kernel
theorem dX3_addSide_41 : decode cX3_addSide 41 = .ok (.iadd, 1) := by decide +kernel
theorem dX3_addSide_42 : decode cX3_addSide 42 = .ok (.laload, 1) := by decide +kernel
theorem dX3_addSide_43 : decode cX3_addSide 43 = .ok (.lor, 1) := by decide +kernel
theorem dX3_addSide_44 : decode cX3_addSide 44 = .ok (.lastore, 1) := by decide +kernel
theorem dX3_addSide_45 : decode cX3_addSide 45 = .ok (.iinc 3 1, 3) := by decide +kernel
theorem dX3_addSide_48 : decode cX3_addSide 48 = .ok (.goto (-46), 3) := by decide +kernel
theorem dX3_addSide_51 : decode cX3_addSide 51 = .ok (.aload_n 0, 1) := by decide +kernel
theorem dX3_addSide_52 : decode cX3_addSide 52 = .ok (.dup, 1) := by decide +kernel
theorem dX3_addSide_53 : decode cX3_addSide 53 = .ok (.getfield 27, 3) := by decide +kernel
theorem dX3_addSide_56 : decode cX3_addSide 56 = .ok (.dup_x1, 1) := by decide +kernel
theorem dX3_addSide_57 : decode cX3_addSide 57 = .ok (.iconst 1, 1) := by decide +kernel
theorem dX3_addSide_58 : decode cX3_addSide 58 = .ok (.iadd, 1) := by decide +kernel
theorem dX3_addSide_59 : decode cX3_addSide 59 = .ok (.putfield 27, 3) := by decide +kernel
theorem dX3_addSide_62 : decode cX3_addSide 62 = .ok (.ireturn, 1) := by decide +kernel
set_option maxRecDepth 20000 in
theorem ggX3_addSome_X3_shareWorths : GoodIn wsX3_addSome wsX3_shareWorths := goodIn_r _ [7, 1, 8, 22, 23, 24, 25, 26] rfl (by decide +kernel)
set_option maxRecDepth 20000 in
theorem gX3_addSome_X3_shareWorths : GoodIn wsX3_addSome (wsV RX3 50 RX3 yX3_shareWorths wsX3_shareWorths) := goodIn_app (goodIn_of _ (by decide +kernel)) ggX3_addSome_X3_shareWorths
set_option maxRecDepth 20000 in
theorem ggX3_addSome_X3_wipe : GoodIn wsX3_addSome wsX3_wipe := goodIn_r _ [12, 13, 2, 22, 23, 24, 25, 26] rfl (by decide +kernel)
set_option maxRecDepth 20000 in
theorem gX3_addSome_X3_wipe : GoodIn wsX3_addSome (wsV RX3 44 RX3 yX3_wipe wsX3_wipe) := goodIn_app (goodIn_of _ (by decide +kernel)) ggX3_addSome_X3_wipe
set_option maxRecDepth 20000 in
theorem ggX3_addSome_X3_worthOf : GoodIn wsX3_addSome wsX3_worthOf := goodIn_r _ [17, 1, 8, 22, 23, 24, 25, 26] rfl (by decide +kernel)
set_option maxRecDepth 20000 in
theorem gX3_addSome_X3_worthOf : GoodIn wsX3_addSome (wsV RX3 54 RX3 yX3_worthOf wsX3_worthOf) := goodIn_app (goodIn_of _ (by decide +kernel)) ggX3_addSome_X3_worthOf
set_option maxRecDepth 20000 in
theorem ggX3_addSome_X3_mark : GoodIn wsX3_addSome wsX3_mark := goodIn_r _ [21, 13, 2, 22, 23, 24, 25, 26] rfl (by decide +kernel)
set_option maxRecDepth 20000 in
theorem gX3_addSome_X3_mark : GoodIn wsX3_addSome (wsV RX3 47 RX3 yX3_mark wsX3_mark) := goodIn_app (goodIn_of _ (by decide +kernel)) ggX3_addSome_X3_mark
theorem dX3_addSome_0 : decode cX3_addSome 0 = .ok (.aload_n 0, 1) := by decide +kernel
theorem dX3_addSome_1 : decode cX3_addSome 1 = .ok (.iload_n 1, 1) := by decide +kernel
theorem dX3_addSome_2 : decode cX3_addSome 2 = .ok (.lload_n 2, 1) := by decide +kernel
theorem dX3_addSome_3 : decode cX3_addSome 3 = .ok (.iload 4, 2) := by decide +kernel
theorem dX3_addSome_5 : decode cX3_addSome 5 = .ok (.invokevirtual 50, 3) := by decide +kernel
theorem dX3_addSome_8 : decode cX3_addSome 8 = .ok (.aload_n 0, 1) := by decide +kernel
theorem dX3_addSome_9 : decode cX3_addSome 9 = .ok (.invokevirtual 44, 3) := by decide +kernel
theorem dX3_addSome_12 : decode cX3_addSome 12 = .ok (.iconst 0, 1) := by decide +kernel
theorem dX3_addSome_13 : decode cX3_addSome 13 = .ok (.istore 6, 2) := by decide +kernel
theorem dX3_addSome_15 : decode cX3_addSome 15 = .ok (.iload 6, 2) := by decide +kernel
theorem dX3_addSome_17 : decode cX3_addSome 17 = .ok (.iconst 1, 1) := by decide +kernel
theorem dX3_addSome_18 : decode cX3_addSome 18 = .ok (.aload_n 0, 1) := by decide +kernel
theorem dX3_addSome_19 : decode cX3_addSome 19 = .ok (.getfield 23, 3) := by decide +kernel
theorem dX3_addSome_22 : decode cX3_addSome 22 = .ok (.ishl, 1) := by decide +kernel
theorem dX3_addSome_23 : decode cX3_addSome 23 = .ok (.if_icmp .ge 26, 3) := by decide +kernel
theorem dX3_addSome_26 : decode cX3_addSome 26 = .ok (.aload_n 0, 1) := by decide +kernel
theorem dX3_addSome_27 : decode cX3_addSome 27 = .ok (.iload 6, 2) := by decide +kernel
theorem dX3_addSome_29 : decode cX3_addSome 29 = .ok (.invokevirtual 54, 3) := by decide +kernel
theorem dX3_addSome_32 : decode cX3_addSome 32 = .ok (.iload 5, 2) := by decide +kernel
theorem dX3_addSome_34 : decode cX3_addSome 34 = .ok (.if_icmp .lt 9, 3) := by decide +kernel
theorem dX3_addSome_37 : decode cX3_addSome 37 = .ok (.aload_n 0, 1) := by decide +kernel
theorem dX3_addSome_38 : decode cX3_addSome 38 = .ok (.iload 6, 2) := by decide +kernel
theorem dX3_addSome_40 : decode cX3_addSome 40 = .ok (.invokevirtual 47, 3) := by decide +kernel
theorem dX3_addSome_43 : decode cX3_addSome 43 = .ok (.iinc 6 1, 3) := by decide +kernel
theorem dX3_addSome_46 : decode cX3_addSome 46 = .ok (.goto (-31), 3) := by decide +kernel
theorem dX3_addSome_49 : decode cX3_addSome 49 = .ok (.aload_n 0, 1) := by decide +kernel
theorem dX3_addSome_50 : decode cX3_addSome 50 = .ok (.dup, 1) := by decide +kernel
theorem dX3_addSome_51 : decode cX3_addSome 51 = .ok (.getfield 27, 3) := by decide +kernel
theorem dX3_addSome_54 : decode cX3_addSome 54 = .ok (.dup_x1, 1) := by decide +kernel
theorem dX3_addSome_55 : decode cX3_addSome 55 = .ok (.iconst 1, 1) := by decide +kernel
theorem dX3_addSome_56 : decode cX3_addSome 56 = .ok (.iadd, 1) := by decide +kernel
theorem dX3_addSome_57 : decode cX3_addSome 57 = .ok (.putfield 27, 3) := by decide +kernel
theorem dX3_addSome_60 : decode cX3_addSome 60 = .ok (.ireturn, 1) := by decide +kernel
set_option maxRecDepth 20000 in
theorem ggX3_addDual_X3_wipe : GoodIn wsX3_addDual wsX3_wipe := goodIn_r _ [7, 8, 2, 17, 18, 19, 20, 21] rfl (by decide +kernel)
set_option maxRecDepth 20000 in
theorem gX3_addDual_X3_wipe : GoodIn wsX3_addDual (wsV RX3 44 RX3 yX3_wipe wsX3_wipe) := goodIn_app (goodIn_of _ (by decide +kernel)) ggX3_addDual_X3_wipe
set_option maxRecDepth 20000 in
theorem ggX3_addDual_X3_isGood : GoodIn wsX3_addDual wsX3_isGood := goodIn_r _ [12, 8, 17, 18, 19, 20, 21] rfl (by decide +kernel)
set_option maxRecDepth 20000 in
theorem gX3_addDual_X3_isGood : GoodIn wsX3_addDual (wsV RX3 37 RX3 yX3_isGood wsX3_isGood) := goodIn_app (goodIn_of _ (by decide +kernel)) ggX3_addDual_X3_isGood
set_option maxRecDepth 20000 in
theorem ggX3_addDual_X3_mark : GoodIn wsX3_addDual wsX3_mark := goodIn_r _ [16, 8, 2, 17, 18, 19, 20, 21] rfl (by decide +kernel)
set_option maxRecDepth 20000 in
theorem gX3_addDual_X3_mark : GoodIn wsX3_addDual (wsV RX3 47 RX3 yX3_mark wsX3_mark) := goodIn_app (goodIn_of _ (by decide +kernel)) ggX3_addDual_X3_mark
theorem dX3_addDual_0 : decode cX3_addDual 0 = .ok (.aload_n 0, 1) := by decide +kernel
theorem dX3_addDual_1 : decode cX3_addDual 1 = .ok (.invokevirtual 44, 3) := by decide +kernel
theorem dX3_addDual_4 : decode cX3_addDual 4 = .ok (.iconst 1, 1) := by decide +kernel
theorem dX3_addDual_5 : decode cX3_addDual 5 = .ok (.aload_n 0, 1) := by decide +kernel
theorem dX3_addDual_6 : decode cX3_addDual 6 = .ok (.getfield 23, 3) := by decide +kernel
theorem dX3_addDual_9 : decode cX3_addDual 9 = .ok (.ishl, 1) := by decide +kernel
theorem dX3_addDual_10 : decode cX3_addDual 10 = .ok (.iconst 1, 1) := by decide +kernel
theorem dX3_addDual_11 : decode cX3_addDual 11 = .ok (.isub, 1) := by decide +kernel
theorem dX3_addDual_12 : decode cX3_addDual 12 = .ok (.istore_n 2, 1) := by decide +kernel
theorem dX3_addDual_13 : decode cX3_addDual 13 = .ok (.iconst 0, 1) := by decide +kernel
theorem dX3_addDual_14 : decode cX3_addDual 14 = .ok (.istore_n 3, 1) := by decide +kernel
theorem dX3_addDual_15 : decode cX3_addDual 15 = .ok (.iload_n 3, 1) := by decide +kernel
theorem dX3_addDual_16 : decode cX3_addDual 16 = .ok (.iload_n 2, 1) := by decide +kernel
theorem dX3_addDual_17 : decode cX3_addDual 17 = .ok (.if_icmp .gt 25, 3) := by decide +kernel
theorem dX3_addDual_20 : decode cX3_addDual 20 = .ok (.aload_n 0, 1) := by decide +kernel
theorem dX3_addDual_21 : decode cX3_addDual 21 = .ok (.iload_n 1, 1) := by decide +kernel
theorem dX3_addDual_22 : decode cX3_addDual 22 = .ok (.iload_n 2, 1) := by decide +kernel
theorem dX3_addDual_23 : decode cX3_addDual 23 = .ok (.iload_n 3, 1) := by decide +kernel
theorem dX3_addDual_24 : decode cX3_addDual 24 = .ok (.ixor, 1) := by decide +kernel
theorem dX3_addDual_25 : decode cX3_addDual 25 = .ok (.invokevirtual 37, 3) := by decide +kernel
theorem dX3_addDual_28 : decode cX3_addDual 28 = .ok (.ifCond .ne 8, 3) := by decide +kernel
theorem dX3_addDual_31 : decode cX3_addDual 31 = .ok (.aload_n 0, 1) := by decide +kernel
theorem dX3_addDual_32 : decode cX3_addDual 32 = .ok (.iload_n 3, 1) := by decide +kernel
theorem dX3_addDual_33 : decode cX3_addDual 33 = .ok (.invokevirtual 47, 3) := by decide +kernel
theorem dX3_addDual_36 : decode cX3_addDual 36 = .ok (.iinc 3 1, 3) := by decide +kernel
theorem dX3_addDual_39 : decode cX3_addDual 39 = .ok (.goto (-24), 3) := by decide +kernel
theorem dX3_addDual_42 : decode cX3_addDual 42 = .ok (.aload_n 0, 1) := by decide +kernel
theorem dX3_addDual_43 : decode cX3_addDual 43 = .ok (.dup, 1) := by decide +kernel
theorem dX3_addDual_44 : decode cX3_addDual 44 = .ok (.getfield 27, 3) := by decide +kernel
theorem dX3_addDual_47 : decode cX3_addDual 47 = .ok (.dup_x1, 1) := by decide +kernel
theorem dX3_addDual_48 : decode cX3_addDual 48 = .ok (.iconst 1, 1) := by decide +kernel
theorem dX3_addDual_49 : decode cX3_addDual 49 = .ok (.iadd, 1) := by decide +kernel
theorem dX3_addDual_50 : decode cX3_addDual 50 = .ok (.putfield 27, 3) := by decide +kernel
theorem dX3_addDual_53 : decode cX3_addDual 53 = .ok (.ireturn, 1) := by decide +kernel
set_option maxRecDepth 20000 in
theorem ggX3_firstUnlike_X3_isGood : GoodIn wsX3_firstUnlike wsX3_isGood := goodIn_r _ [6, 7, 8, 9, 10, 11, 12] rfl (by decide +kernel)
set_option maxRecDepth 20000 in
theorem gX3_firstUnlike_X3_isGood : GoodIn wsX3_firstUnlike (wsV RX3 37 RX3 yX3_isGood wsX3_isGood) := goodIn_app (goodIn_of _ (by decide +kernel)) ggX3_firstUnlike_X3_isGood
theorem dX3_firstUnlike_0 : decode cX3_firstUnlike 0 = .ok (.iconst 0, 1) := by decide +kernel
theorem dX3_firstUnlike_1 : decode cX3_firstUnlike 1 = .ok (.istore_n 3, 1) := by decide +kernel
theorem dX3_firstUnlike_2 : decode cX3_firstUnlike 2 = .ok (.iload_n 3, 1) := by decide +kernel
theorem dX3_firstUnlike_3 : decode cX3_firstUnlike 3 = .ok (.iconst 1, 1) := by decide +kernel
theorem dX3_firstUnlike_4 : decode cX3_firstUnlike 4 = .ok (.aload_n 0, 1) := by decide +kernel
theorem dX3_firstUnlike_5 : decode cX3_firstUnlike 5 = .ok (.getfield 23, 3) := by decide +kernel
theorem dX3_firstUnlike_8 : decode cX3_firstUnlike 8 = .ok (.ishl, 1) := by decide +kernel
theorem dX3_firstUnlike_9 : decode cX3_firstUnlike 9 = .ok (.if_icmp .ge 26, 3) := by decide +kernel
theorem dX3_firstUnlike_12 : decode cX3_firstUnlike 12 = .ok (.aload_n 0, 1) := by decide +kernel
theorem dX3_firstUnlike_13 : decode cX3_firstUnlike 13 = .ok (.iload_n 1, 1) := by decide +kernel
theorem dX3_firstUnlike_14 : decode cX3_firstUnlike 14 = .ok (.iload_n 3, 1) := by decide +kernel
theorem dX3_firstUnlike_15 : decode cX3_firstUnlike 15 = .ok (.invokevirtual 37, 3) := by decide +kernel
theorem dX3_firstUnlike_18 : decode cX3_firstUnlike 18 = .ok (.aload_n 0, 1) := by decide +kernel
theorem dX3_firstUnlike_19 : decode cX3_firstUnlike 19 = .ok (.iload_n 2, 1) := by decide +kernel
theorem dX3_firstUnlike_20 : decode cX3_firstUnlike 20 = .ok (.iload_n 3, 1) := by decide +kernel
theorem dX3_firstUnlike_21 : decode cX3_firstUnlike 21 = .ok (.invokevirtual 37, 3) := by decide +kernel
theorem dX3_firstUnlike_24 : decode cX3_firstUnlike 24 = .ok (.if_icmp .eq 5, 3) := by decide +kernel
theorem dX3_firstUnlike_27 : decode cX3_firstUnlike 27 = .ok (.iload_n 3, 1) := by decide +kernel
theorem dX3_firstUnlike_28 : decode cX3_firstUnlike 28 = .ok (.ireturn, 1) := by decide +kernel
theorem dX3_firstUnlike_29 : decode cX3_firstUnlike 29 = .ok (.iinc 3 1, 3) := by decide +kernel
theorem dX3_firstUnlike_32 : decode cX3_firstUnlike 32 = .ok (.goto (-30), 3) := by decide +kernel
theorem dX3_firstUnlike_35 : decode cX3_firstUnlike 35 = .ok (.iconst (-1), 1) := by decide +kernel
theorem dX3_firstUnlike_36 : decode cX3_firstUnlike 36 = .ok (.ireturn, 1) := by decide +kernel
set_option maxRecDepth 20000 in
theorem ggX3_countLeast_X3_isLeast : GoodIn wsX3_countLeast wsX3_isLeast := goodIn_r _ [6, 1, 7, 8, 9, 5, 10, 11, 12, 13, 14, 15, 16, 17, 18, 19, 20, 21, 22, 23, 24, 25] rfl (by decide +kernel)
set_option maxRecDepth 20000 in
theorem gX3_countLeast_X3_isLeast : GoodIn wsX3_countLeast (wsV RX3 58 RX3 yX3_isLeast wsX3_isLeast) := goodIn_app (goodIn_of _ (by decide +kernel)) ggX3_countLeast_X3_isLeast
theorem dX3_countLeast_0 : decode cX3_countLeast 0 = .ok (.iconst 0, 1) := by decide +kernel
theorem dX3_countLeast_1 : decode cX3_countLeast 1 = .ok (.istore_n 2, 1) := by decide +kernel
theorem dX3_countLeast_2 : decode cX3_countLeast 2 = .ok (.iconst 0, 1) := by decide +kernel
theorem dX3_countLeast_3 : decode cX3_countLeast 3 = .ok (.istore_n 3, 1) := by decide +kernel
theorem dX3_countLeast_4 : decode cX3_countLeast 4 = .ok (.iload_n 3, 1) := by decide +kernel
theorem dX3_countLeast_5 : decode cX3_countLeast 5 = .ok (.iconst 1, 1) := by decide +kernel
theorem dX3_countLeast_6 : decode cX3_countLeast 6 = .ok (.aload_n 0, 1) := by decide +kernel
theorem dX3_countLeast_7 : decode cX3_countLeast 7 = .ok (.getfield 23, 3) := by decide +kernel
theorem dX3_countLeast_10 : decode cX3_countLeast 10 = .ok (.ishl, 1) := by decide +kernel
theorem dX3_countLeast_11 : decode cX3_countLeast 11 = .ok (.if_icmp .ge 21, 3) := by decide +kernel
theorem dX3_countLeast_14 : decode cX3_countLeast 14 = .ok (.aload_n 0, 1) := by decide +kernel
theorem dX3_countLeast_15 : decode cX3_countLeast 15 = .ok (.iload_n 1, 1) := by decide +kernel
theorem dX3_countLeast_16 : decode cX3_countLeast 16 = .ok (.iload_n 3, 1) := by decide +kernel
theorem dX3_countLeast_17 : decode cX3_countLeast 17 = .ok (.invokevirtual 58, 3) := by decide +kernel
theorem dX3_countLeast_20 : decode cX3_countLeast 20 = .ok (.ifCond .eq 6, 3) := by decide +kernel
theorem dX3_countLeast_23 : decode cX3_countLeast 23 = .ok (.iinc 2 1, 3) := by decide +kernel
theorem dX3_countLeast_26 : decode cX3_countLeast 26 = .ok (.iinc 3 1, 3) := by decide +kernel
theorem dX3_countLeast_29 : decode cX3_countLeast 29 = .ok (.goto (-25), 3) := by decide +kernel
theorem dX3_countLeast_32 : decode cX3_countLeast 32 = .ok (.iload_n 2, 1) := by decide +kernel
theorem dX3_countLeast_33 : decode cX3_countLeast 33 = .ok (.ireturn, 1) := by decide +kernel
set_option maxRecDepth 20000 in
theorem ggX3_findLeast_X3_isLeast : GoodIn wsX3_findLeast wsX3_isLeast := goodIn_r _ [6, 1, 7, 8, 9, 5, 10, 11, 12, 13, 14, 15, 16, 17, 18, 19, 20, 21, 22, 23, 24, 25] rfl (by decide +kernel)
set_option maxRecDepth 20000 in
theorem gX3_findLeast_X3_isLeast : GoodIn wsX3_findLeast (wsV RX3 58 RX3 yX3_isLeast wsX3_isLeast) := goodIn_app (goodIn_of _ (by decide +kernel)) ggX3_findLeast_X3_isLeast
theorem dX3_findLeast_0 : decode cX3_findLeast 0 = .ok (.iconst 0, 1) := by decide +kernel
theorem dX3_findLeast_1 : decode cX3_findLeast 1 = .ok (.istore_n 3, 1) := by decide +kernel
theorem dX3_findLeast_2 : decode cX3_findLeast 2 = .ok (.iconst 0, 1) := by decide +kernel
theorem dX3_findLeast_3 : decode cX3_findLeast 3 = .ok (.istore 4, 2) := by decide +kernel
theorem dX3_findLeast_5 : decode cX3_findLeast 5 = .ok (.iload 4, 2) := by decide +kernel
theorem dX3_findLeast_7 : decode cX3_findLeast 7 = .ok (.iconst 1, 1) := by decide +kernel
theorem dX3_findLeast_8 : decode cX3_findLeast 8 = .ok (.aload_n 0, 1) := by decide +kernel
theorem dX3_findLeast_9 : decode cX3_findLeast 9 = .ok (.getfield 23, 3) := by decide +kernel
theorem dX3_findLeast_12 : decode cX3_findLeast 12 = .ok (.ishl, 1) := by decide +kernel
theorem dX3_findLeast_13 : decode cX3_findLeast 13 = .ok (.if_icmp .ge 30, 3) := by decide +kernel
theorem dX3_findLeast_16 : decode cX3_findLeast 16 = .ok (.aload_n 0, 1) := by decide +kernel
theorem dX3_findLeast_17 : decode cX3_findLeast 17 = .ok (.iload_n 1, 1) := by decide +kernel
theorem dX3_findLeast_18 : decode cX3_findLeast 18 = .ok (.iload 4, 2) := by decide +kernel
theorem dX3_findLeast_20 : decode cX3_findLeast 20 = .ok (.invokevirtual 58, 3) := by decide +kernel
theorem dX3_findLeast_23 : decode cX3_findLeast 23 = .ok (.ifCond .eq 14, 3) := by decide +kernel
theorem dX3_findLeast_26 : decode cX3_findLeast 26 = .ok (.iload_n 3, 1) := by decide +kernel
theorem dX3_findLeast_27 : decode cX3_findLeast 27 = .ok (.iload_n 2, 1) := by decide +kernel
theorem dX3_findLeast_28 : decode cX3_findLeast 28 = .ok (.if_icmp .ne 6, 3) := by decide +kernel
theorem dX3_findLeast_31 : decode cX3_findLeast 31 = .ok (.iload 4, 2) := by decide +kernel
theorem dX3_findLeast_33 : decode cX3_findLeast 33 = .ok (.ireturn, 1) := by decide +kernel
theorem dX3_findLeast_34 : decode cX3_findLeast 34 = .ok (.iinc 3 1, 3) := by decide +kernel
theorem dX3_findLeast_37 : decode cX3_findLeast 37 = .ok (.iinc 4 1, 3) := by decide +kernel
theorem dX3_findLeast_40 : decode cX3_findLeast 40 = .ok (.goto (-35), 3) := by decide +kernel
theorem dX3_findLeast_43 : decode cX3_findLeast 43 = .ok (.iconst (-1), 1) := by decide +kernel
theorem dX3_findLeast_44 : decode cX3_findLeast 44 = .ok (.ireturn, 1) := by decide +kernel
set_option maxRecDepth 20000 in
theorem ggX3_settles_X3_isSystemGood : GoodIn wsX3_settles wsX3_isSystemGood := goodIn_r _ [6, 7, 8, 9, 10, 5, 11, 12, 13, 14, 15, 16, 17] rfl (by decide +kernel)
set_option maxRecDepth 20000 in
theorem gX3_settles_X3_isSystemGood : GoodIn wsX3_settles (wsV RX3 41 RX3 yX3_isSystemGood wsX3_isSystemGood) := goodIn_app (goodIn_of _ (by decide +kernel)) ggX3_settles_X3_isSystemGood
theorem dX3_settles_0 : decode cX3_settles 0 = .ok (.iconst 1, 1) := by decide +kernel
theorem dX3_settles_1 : decode cX3_settles 1 = .ok (.aload_n 0, 1) := by decide +kernel
theorem dX3_settles_2 : decode cX3_settles 2 = .ok (.getfield 23, 3) := by decide +kernel
theorem dX3_settles_5 : decode cX3_settles 5 = .ok (.ishl, 1) := by decide +kernel
theorem dX3_settles_6 : decode cX3_settles 6 = .ok (.iconst 1, 1) := by decide +kernel
theorem dX3_settles_7 : decode cX3_settles 7 = .ok (.isub, 1) := by decide +kernel
theorem dX3_settles_8 : decode cX3_settles 8 = .ok (.istore_n 3, 1) := by decide +kernel
theorem dX3_settles_9 : decode cX3_settles 9 = .ok (.iload_n 1, 1) := by decide +kernel
theorem dX3_settles_10 : decode cX3_settles 10 = .ok (.ifCond .eq 11, 3) := by decide +kernel
theorem dX3_settles_13 : decode cX3_settles 13 = .ok (.aload_n 0, 1) := by decide +kernel
theorem dX3_settles_14 : decode cX3_settles 14 = .ok (.iload_n 2, 1) := by decide +kernel
theorem dX3_settles_15 : decode cX3_settles 15 = .ok (.invokevirtual 41, 3) := by decide +kernel
theorem dX3_settles_18 : decode cX3_settles 18 = .ok (.goto 18, 3) := by decide +kernel
theorem dX3_settles_21 : decode cX3_settles 21 = .ok (.aload_n 0, 1) := by decide +kernel
theorem dX3_settles_22 : decode cX3_settles 22 = .ok (.iload_n 3, 1) := by decide +kernel
theorem dX3_settles_23 : decode cX3_settles 23 = .ok (.iload_n 2, 1) := by decide +kernel
theorem dX3_settles_24 : decode cX3_settles 24 = .ok (.ixor, 1) := by decide +kernel
theorem dX3_settles_25 : decode cX3_settles 25 = .ok (.invokevirtual 41, 3) := by decide +kernel
theorem dX3_settles_28 : decode cX3_settles 28 = .ok (.ifCond .ne 7, 3) := by decide +kernel
theorem dX3_settles_31 : decode cX3_settles 31 = .ok (.iconst 1, 1) := by decide +kernel
theorem dX3_settles_32 : decode cX3_settles 32 = .ok (.goto 4, 3) := by decide +kernel
theorem dX3_settles_35 : decode cX3_settles 35 = .ok (.iconst 0, 1) := by decide +kernel
theorem dX3_settles_36 : decode cX3_settles 36 = .ok (.ireturn, 1) := by decide +kernel
set_option maxRecDepth 20000 in
theorem ggX3_isLeast_X3_settles : GoodIn wsX3_isLeast wsX3_settles := goodIn_r _ [6, 1, 7, 8, 9, 5, 10, 11, 12, 13, 14, 15, 16, 17, 18, 19, 20, 21] rfl (by decide +kernel)
set_option maxRecDepth 20000 in
theorem gX3_isLeast_X3_settles : GoodIn wsX3_isLeast (wsV RX3 62 RX3 yX3_settles wsX3_settles) := goodIn_app (goodIn_of _ (by decide +kernel)) ggX3_isLeast_X3_settles
theorem dX3_isLeast_0 : decode cX3_isLeast 0 = .ok (.aload_n 0, 1) := by decide +kernel
theorem dX3_isLeast_1 : decode cX3_isLeast 1 = .ok (.iload_n 1, 1) := by decide +kernel
theorem dX3_isLeast_2 : decode cX3_isLeast 2 = .ok (.iload_n 2, 1) := by decide +kernel
theorem dX3_isLeast_3 : decode cX3_isLeast 3 = .ok (.invokevirtual 62, 3) := by decide +kernel
theorem dX3_isLeast_6 : decode cX3_isLeast 6 = .ok (.ifCond .ne 5, 3) := by decide +kernel
theorem dX3_isLeast_9 : decode cX3_isLeast 9 = .ok (.iconst 0, 1) := by decide +kernel
theorem dX3_isLeast_10 : decode cX3_isLeast 10 = .ok (.ireturn, 1) := by decide +kernel
theorem dX3_isLeast_11 : decode cX3_isLeast 11 = .ok (.iconst 0, 1) := by decide +kernel
theorem dX3_isLeast_12 : decode cX3_isLeast 12 = .ok (.istore_n 3, 1) := by decide +kernel
theorem dX3_isLeast_13 : decode cX3_isLeast 13 = .ok (.iload_n 3, 1) := by decide +kernel
theorem dX3_isLeast_14 : decode cX3_isLeast 14 = .ok (.aload_n 0, 1) := by decide +kernel
theorem dX3_isLeast_15 : decode cX3_isLeast 15 = .ok (.getfield 23, 3) := by decide +kernel
theorem dX3_isLeast_18 : decode cX3_isLeast 18 = .ok (.if_icmp .ge 33, 3) := by decide +kernel
theorem dX3_isLeast_21 : decode cX3_isLeast 21 = .ok (.iload_n 2, 1) := by decide +kernel
theorem dX3_isLeast_22 : decode cX3_isLeast 22 = .ok (.iload_n 3, 1) := by decide +kernel
theorem dX3_isLeast_23 : decode cX3_isLeast 23 = .ok (.ishr, 1) := by decide +kernel
theorem dX3_isLeast_24 : decode cX3_isLeast 24 = .ok (.iconst 1, 1) := by decide +kernel
theorem dX3_isLeast_25 : decode cX3_isLeast 25 = .ok (.iand, 1) := by decide +kernel
theorem dX3_isLeast_26 : decode cX3_isLeast 26 = .ok (.iconst 1, 1) := by decide +kernel
theorem dX3_isLeast_27 : decode cX3_isLeast 27 = .ok (.if_icmp .ne 18, 3) := by decide +kernel
theorem dX3_isLeast_30 : decode cX3_isLeast 30 = .ok (.aload_n 0, 1) := by decide +kernel
theorem dX3_isLeast_31 : decode cX3_isLeast 31 = .ok (.iload_n 1, 1) := by decide +kernel
theorem dX3_isLeast_32 : decode cX3_isLeast 32 = .ok (.iload_n 2, 1) := by decide +kernel
theorem dX3_isLeast_33 : decode cX3_isLeast 33 = .ok (.iconst 1, 1) := by decide +kernel
theorem dX3_isLeast_34 : decode cX3_isLeast 34 = .ok (.iload_n 3, 1) := by decide +kernel
theorem dX3_isLeast_35 : decode cX3_isLeast 35 = .ok (.ishl, 1) := by decide +kernel
theorem dX3_isLeast_36 : decode cX3_isLeast 36 = .ok (.ixor, 1) := by decide +kernel
theorem dX3_isLeast_37 : decode cX3_isLeast 37 = .ok (.invokevirtual 62, 3) := by decide +kernel
theorem dX3_isLeast_40 : decode cX3_isLeast 40 = .ok (.ifCond .eq 5, 3) := by decide +kernel
theorem dX3_isLeast_43 : decode cX3_isLeast 43 = .ok (.iconst 0, 1) := by decide +kernel
theorem dX3_isLeast_44 : decode cX3_isLeast 44 = .ok (.ireturn, 1) := by decide +kernel
theorem dX3_isLeast_45 : decode cX3_isLeast 45 = .ok (.iinc 3 1, 3) := by decide +kernel
theorem dX3_isLeast_48 : decode cX3_isLeast 48 = .ok (.goto (-35), 3) := by decide +kernel
theorem dX3_isLeast_51 : decode cX3_isLeast 51 = .ok (.iconst 1, 1) := by decide +kernel
theorem dX3_isLeast_52 : decode cX3_isLeast 52 = .ok (.ireturn, 1) := by decide +kernel
theorem dX3_wipe_0 : decode cX3_wipe 0 = .ok (.iconst 0, 1) := by decide +kernel
theorem dX3_wipe_1 : decode cX3_wipe 1 = .ok (.istore_n 1, 1) := by decide +kernel
theorem dX3_wipe_2 : decode cX3_wipe 2 = .ok (.iload_n 1, 1) := by decide +kernel
theorem dX3_wipe_3 : decode cX3_wipe 3 = .ok (.bipush 8, 2) := by decide +kernel
theorem dX3_wipe_5 : decode cX3_wipe 5 = .ok (.if_icmp .ge 24, 3) := by decide +kernel
theorem dX3_wipe_8 : decode cX3_wipe 8 = .ok (.aload_n 0, 1) := by decide +kernel
theorem dX3_wipe_9 : decode cX3_wipe 9 = .ok (.getfield 11, 3) := by decide +kernel
theorem dX3_wipe_12 : decode cX3_wipe 12 = .ok (.aload_n 0, 1) := by decide +kernel
theorem dX3_wipe_13 : decode cX3_wipe 13 = .ok (.getfield 27, 3) := by decide +kernel
theorem dX3_wipe_16 : decode cX3_wipe 16 = .ok (.bipush 8, 2) := by decide +kernel
theorem dX3_wipe_18 : decode cX3_wipe 18 = .ok (.imul, 1) := by decide +kernel
theorem dX3_wipe_19 : decode cX3_wipe 19 = .ok (.iload_n 1, 1) := by decide +kernel
theorem dX3_wipe_20 : decode cX3_wipe 20 = .ok (.iadd, 1) := by decide +kernel
theorem dX3_wipe_21 : decode cX3_wipe 21 = .ok (.lconst 0, 1) := by decide +kernel
theorem dX3_wipe_22 : decode cX3_wipe 22 = .ok (.lastore, 1) := by decide +kernel
theorem dX3_wipe_23 : decode cX3_wipe 23 = .ok (.iinc 1 1, 3) := by decide +kernel
theorem dX3_wipe_26 : decode cX3_wipe 26 = .ok (.goto (-24), 3) := by decide +kernel
theorem dX3_wipe_29 : decode cX3_wipe 29 = .ok (.return_, 1) := by decide +kernel
theorem dX3_mark_0 : decode cX3_mark 0 = .ok (.aload_n 0, 1) := by decide +kernel
theorem dX3_mark_1 : decode cX3_mark 1 = .ok (.getfield 11, 3) := by decide +kernel
theorem dX3_mark_4 : decode cX3_mark 4 = .ok (.aload_n 0, 1) := by decide +kernel
theorem dX3_mark_5 : decode cX3_mark 5 = .ok (.getfield 27, 3) := by decide +kernel
theorem dX3_mark_8 : decode cX3_mark 8 = .ok (.bipush 8, 2) := by decide +kernel
theorem dX3_mark_10 : decode cX3_mark 10 = .ok (.imul, 1) := by decide +kernel
theorem dX3_mark_11 : decode cX3_mark 11 = .ok (.iload_n 1, 1) := by decide +kernel
theorem dX3_mark_12 : decode cX3_mark 12 = .ok (.bipush 6, 2) := by decide +kernel
theorem dX3_mark_14 : decode cX3_mark 14 = .ok (.ishr, 1) := by decide +kernel
theorem dX3_mark_15 : decode cX3_mark 15 = .ok (.iadd, 1) := by decide +kernel
theorem dX3_mark_16 : decode cX3_mark 16 = .ok (.dup2, 1) := by decide +kernel
theorem dX3_mark_17 : decode cX3_mark 17 = .ok (.laload, 1) := by decide +kernel
theorem dX3_mark_18 : decode cX3_mark 18 = .ok (.lconst 1, 1) := by decide +kernel
theorem dX3_mark_19 : decode cX3_mark 19 = .ok (.iload_n 1, 1) := by decide +kernel
theorem dX3_mark_20 : decode cX3_mark 20 = .ok (.bipush 63, 2) := by decide +kernel
theorem dX3_mark_22 : decode cX3_mark 22 = .ok (.iand, 1) := by decide +kernel
theorem dX3_mark_23 : decode cX3_mark 23 = .ok (.lshl, 1) := by decide +kernel
theorem dX3_mark_24 : decode cX3_mark 24 = .ok (.lor, 1) := by decide +kernel
theorem dX3_mark_25 : decode cX3_mark 25 = .ok (.lastore, 1) := by decide +kernel
theorem dX3_mark_26 : decode cX3_mark 26 = .ok (.return_, 1) := by decide +kernel
theorem dX3_shareWorths_0 : decode cX3_shareWorths 0 = .ok (.lload_n 2, 1) := by decide +kernel
theorem dX3_shareWorths_1 : decode cX3_shareWorths 1 = .ok (.lstore 5, 2) := by decide +kernel
theorem dX3_shareWorths_3 : decode cX3_shareWorths 3 = .ok (.lconst 1, 1) := by decide +kernel
theorem dX3_shareWorths_4 : decode cX3_shareWorths 4 = .ok (.iload 4, 2) := by decide +kernel
theorem dX3_shareWorths_6 : decode cX3_shareWorths 6 = .ok (.lshl, 1) := by decide +kernel
theorem dX3_shareWorths_7 : decode cX3_shareWorths 7 = .ok (.lconst 1, 1) := by decide +kernel
theorem dX3_shareWorths_8 : decode cX3_shareWorths 8 = .ok (.lsub, 1) := by decide +kernel
theorem dX3_shareWorths_9 : decode cX3_shareWorths 9 = .ok (.lstore 7, 2) := by decide +kernel
theorem dX3_shareWorths_11 : decode cX3_shareWorths 11 = .ok (.iconst 0, 1) := by decide +kernel
theorem dX3_shareWorths_12 : decode cX3_shareWorths 12 = .ok (.istore 9, 2) := by decide +kernel
theorem dX3_shareWorths_14 : decode cX3_shareWorths 14 = .ok (.iload 9, 2) := by decide +kernel
theorem dX3_shareWorths_16 : decode cX3_shareWorths 16 = .ok (.aload_n 0, 1) := by decide +kernel
theorem dX3_shareWorths_17 : decode cX3_shareWorths 17 = .ok (.getfield 23, 3) := by decide +kernel
theorem dX3_shareWorths_20 : decode cX3_shareWorths 20 = .ok (.if_icmp .ge 56, 3) := by decide +kernel
theorem dX3_shareWorths_23 : decode cX3_shareWorths 23 = .ok (.aload_n 0, 1) := by decide +kernel
theorem dX3_shareWorths_24 : decode cX3_shareWorths 24 = .ok (.getfield 15, 3) := by decide +kernel
theorem dX3_shareWorths_27 : decode cX3_shareWorths 27 = .ok (.iload 9, 2) := by decide +kernel
theorem dX3_shareWorths_29 : decode cX3_shareWorths 29 = .ok (.iconst 0, 1) := by decide +kernel
theorem dX3_shareWorths_30 : decode cX3_shareWorths 30 = .ok (.iastore, 1) := by decide +kernel
theorem dX3_shareWorths_31 : decode cX3_shareWorths 31 = .ok (.iload_n 1, 1) := by decide +kernel
theorem dX3_shareWorths_32 : decode cX3_shareWorths 32 = .ok (.iload 9, 2) := by decide +kernel
theorem dX3_shareWorths_34 : decode cX3_shareWorths 34 = .ok (.ishr, 1) := by decide +kernel
theorem dX3_shareWorths_35 : decode cX3_shareWorths 35 = .ok (.iconst 1, 1) := by decide +kernel
theorem dX3_shareWorths_36 : decode cX3_shareWorths 36 = .ok (.iand, 1) := by decide +kernel
theorem dX3_shareWorths_37 : decode cX3_shareWorths 37 = .ok (.iconst 1, 1) := by decide +kernel
theorem dX3_shareWorths_38 : decode cX3_shareWorths 38 = .ok (.if_icmp .ne 32, 3) := by decide +kernel
theorem dX3_shareWorths_41 : decode cX3_shareWorths 41 = .ok (.aload_n 0, 1) := by decide +kernel
theorem dX3_shareWorths_42 : decode cX3_shareWorths 42 = .ok (.getfield 15, 3) := by decide +kernel
theorem dX3_shareWorths_45 : decode cX3_shareWorths 45 = .ok (.iload 9, 2) := by decide +kernel
theorem dX3_shareWorths_47 : decode cX3_shareWorths 47 = .ok (.iload 4, 2) := by decide +kernel
theorem dX3_shareWorths_49 : decode cX3_shareWorths 49 = .ok (.ifCond .ne 7, 3) := by decide +kernel
theorem dX3_shareWorths_52 : decode cX3_shareWorths 52 = .ok (.iconst 1, 1) := by decide +kernel
theorem dX3_shareWorths_53 : decode cX3_shareWorths 53 = .ok (.goto 9, 3) := by decide +kernel
theorem dX3_shareWorths_56 : decode cX3_shareWorths 56 = .ok (.lload 5, 2) := by decide +kernel
theorem dX3_shareWorths_58 : decode cX3_shareWorths 58 = .ok (.lload 7, 2) := by decide +kernel
theorem dX3_shareWorths_60 : decode cX3_shareWorths 60 = .ok (.land, 1) := by decide +kernel
theorem dX3_shareWorths_61 : decode cX3_shareWorths 61 = .ok (.l2i, 1) := by decide +kernel
theorem dX3_shareWorths_62 : decode cX3_shareWorths 62 = .ok (.iastore, 1) := by decide +kernel
theorem dX3_shareWorths_63 : decode cX3_shareWorths 63 = .ok (.lload 5, 2) := by decide +kernel
theorem dX3_shareWorths_65 : decode cX3_shareWorths 65 = .ok (.iload 4, 2) := by decide +kernel
theorem dX3_shareWorths_67 : decode cX3_shareWorths 67 = .ok (.lushr, 1) := by decide +kernel
theorem dX3_shareWorths_68 : decode cX3_shareWorths 68 = .ok (.lstore 5, 2) := by decide +kernel
theorem dX3_shareWorths_70 : decode cX3_shareWorths 70 = .ok (.iinc 9 1, 3) := by decide +kernel
theorem dX3_shareWorths_73 : decode cX3_shareWorths 73 = .ok (.goto (-59), 3) := by decide +kernel
theorem dX3_shareWorths_76 : decode cX3_shareWorths 76 = .ok (.return_, 1) := by decide +kernel
theorem dX3_worthOf_0 : decode cX3_worthOf 0 = .ok (.iconst 0, 1) := by decide +kernel
theorem dX3_worthOf_1 : decode cX3_worthOf 1 = .ok (.istore_n 2, 1) := by decide +kernel
theorem dX3_worthOf_2 : decode cX3_worthOf 2 = .ok (.iconst 0, 1) := by decide +kernel
theorem dX3_worthOf_3 : decode cX3_worthOf 3 = .ok (.istore_n 3, 1) := by decide +kernel
theorem dX3_worthOf_4 : decode cX3_worthOf 4 = .ok (.iload_n 3, 1) := by decide +kernel
theorem dX3_worthOf_5 : decode cX3_worthOf 5 = .ok (.aload_n 0, 1) := by decide +kernel
theorem dX3_worthOf_6 : decode cX3_worthOf 6 = .ok (.getfield 23, 3) := by decide +kernel
theorem dX3_worthOf_9 : decode cX3_worthOf 9 = .ok (.if_icmp .ge 27, 3) := by decide +kernel
theorem dX3_worthOf_12 : decode cX3_worthOf 12 = .ok (.iload_n 1, 1) := by decide +kernel
theorem dX3_worthOf_13 : decode cX3_worthOf 13 = .ok (.iload_n 3, 1) := by decide +kernel
theorem dX3_worthOf_14 : decode cX3_worthOf 14 = .ok (.ishr, 1) := by decide +kernel
theorem dX3_worthOf_15 : decode cX3_worthOf 15 = .ok (.iconst 1, 1) := by decide +kernel
theorem dX3_worthOf_16 : decode cX3_worthOf 16 = .ok (.iand, 1) := by decide +kernel
theorem dX3_worthOf_17 : decode cX3_worthOf 17 = .ok (.iconst 1, 1) := by decide +kernel
theorem dX3_worthOf_18 : decode cX3_worthOf 18 = .ok (.if_icmp .ne 12, 3) := by decide +kernel
theorem dX3_worthOf_21 : decode cX3_worthOf 21 = .ok (.iload_n 2, 1) := by decide +kernel
theorem dX3_worthOf_22 : decode cX3_worthOf 22 = .ok (.aload_n 0, 1) := by decide +kernel
theorem dX3_worthOf_23 : decode cX3_worthOf 23 = .ok (.getfield 15, 3) := by decide +kernel
theorem dX3_worthOf_26 : decode cX3_worthOf 26 = .ok (.iload_n 3, 1) := by decide +kernel
theorem dX3_worthOf_27 : decode cX3_worthOf 27 = .ok (.iaload, 1) := by decide +kernel
theorem dX3_worthOf_28 : decode cX3_worthOf 28 = .ok (.iadd, 1) := by decide +kernel
theorem dX3_worthOf_29 : decode cX3_worthOf 29 = .ok (.istore_n 2, 1) := by decide +kernel
theorem dX3_worthOf_30 : decode cX3_worthOf 30 = .ok (.iinc 3 1, 3) := by decide +kernel
theorem dX3_worthOf_33 : decode cX3_worthOf 33 = .ok (.goto (-29), 3) := by decide +kernel
theorem dX3_worthOf_36 : decode cX3_worthOf 36 = .ok (.iload_n 2, 1) := by decide +kernel
theorem dX3_worthOf_37 : decode cX3_worthOf 37 = .ok (.ireturn, 1) := by decide +kernel
set_option maxRecDepth 20000 in
theorem ggX4_init_X4_lay : GoodIn wsX4_init wsX4_lay := goodIn_r _ [12, 13, 14, 15, 16, 17, 18, 11, 19, 5, 6, 7, 20, 21, 22, 23, 24, 25] rfl (by decide +kernel)
set_option maxRecDepth 20000 in
theorem gX4_init_X4_lay : GoodIn wsX4_init (wsV RX4 21 RX4 yX4_lay wsX4_lay) := goodIn_app (goodIn_of _ (by decide +kernel)) ggX4_init_X4_lay
theorem dX4_init_0 : decode cX4_init 0 = .ok (.aload_n 0, 1) := by decide +kernel
theorem dX4_init_1 : decode cX4_init 1 = .ok (.invokespecial 3, 3) := by decide +kernel
theorem dX4_init_4 : decode cX4_init 4 = .ok (.aload_n 0, 1) := by decide +kernel
theorem dX4_init_5 : decode cX4_init 5 = .ok (.bipush 9, 2) := by decide +kernel
theorem dX4_init_7 : decode cX4_init 7 = .ok (.newarray .int, 2) := by decide +kernel
theorem dX4_init_9 : decode cX4_init 9 = .ok (.putfield 9, 3) := by decide +kernel
theorem dX4_init_12 : decode cX4_init 12 = .ok (.aload_n 0, 1) := by decide +kernel
theorem dX4_init_13 : decode cX4_init 13 = .ok (.bipush 9, 2) := by decide +kernel
theorem dX4_init_15 : decode cX4_init 15 = .ok (.newarray .int, 2) := by decide +kernel
theorem dX4_init_17 : decode cX4_init 17 = .ok (.putfield 15, 3) := by decide +kernel
theorem dX4_init_20 : decode cX4_init 20 = .ok (.aload_n 0, 1) := by decide +kernel
theorem dX4_init_21 : decode cX4_init 21 = .ok (.bipush 9, 2) := by decide +kernel
theorem dX4_init_23 : decode cX4_init 23 = .ok (.newarray .int, 2) := by decide +kernel
theorem dX4_init_25 : decode cX4_init 25 = .ok (.putfield 18, 3) := by decide +kernel
theorem dX4_init_28 : decode cX4_init 28 = .ok (.aload_n 0, 1) := by decide +kernel
theorem dX4_init_29 : decode cX4_init 29 = .ok (.iconst 1, 1) := by decide +kernel
theorem dX4_init_30 : decode cX4_init 30 = .ok (.invokevirtual 21, 3) := by decide +kernel
theorem dX4_init_33 : decode cX4_init 33 = .ok (.return_, 1) := by decide +kernel
set_option maxRecDepth 20000 in
theorem ggX4_lay_X4_change : GoodIn wsX4_lay wsX4_change := goodIn_r _ [8, 9, 10, 11, 12, 13, 14, 15, 16, 17] rfl (by decide +kernel)
set_option maxRecDepth 20000 in
theorem gX4_lay_X4_change : GoodIn wsX4_lay (wsV RX4 35 RX4 yX4_change wsX4_change) := goodIn_app (goodIn_of _ (by decide +kernel)) ggX4_lay_X4_change
theorem dX4_lay_0 : decode cX4_lay 0 = .ok (.aload_n 0, 1) := by decide +kernel
theorem dX4_lay_1 : decode cX4_lay 1 = .ok (.iload_n 1, 1) := by decide +kernel
theorem dX4_lay_2 : decode cX4_lay 2 = .ok (.putfield 25, 3) := by decide +kernel
theorem dX4_lay_5 : decode cX4_lay 5 = .ok (.aload_n 0, 1) := by decide +kernel
theorem dX4_lay_6 : decode cX4_lay 6 = .ok (.iconst 0, 1) := by decide +kernel
theorem dX4_lay_7 : decode cX4_lay 7 = .ok (.putfield 29, 3) := by decide +kernel
theorem dX4_lay_10 : decode cX4_lay 10 = .ok (.aload_n 0, 1) := by decide +kernel
theorem dX4_lay_11 : decode cX4_lay 11 = .ok (.iconst 0, 1) := by decide +kernel
theorem dX4_lay_12 : decode cX4_lay 12 = .ok (.putfield 32, 3) := by decide +kernel
theorem dX4_lay_15 : decode cX4_lay 15 = .ok (.iconst 0, 1) := by decide +kernel
theorem dX4_lay_16 : decode cX4_lay 16 = .ok (.istore_n 2, 1) := by decide +kernel
theorem dX4_lay_17 : decode cX4_lay 17 = .ok (.iload_n 2, 1) := by decide +kernel
theorem dX4_lay_18 : decode cX4_lay 18 = .ok (.bipush 9, 2) := by decide +kernel
theorem dX4_lay_20 : decode cX4_lay 20 = .ok (.if_icmp .ge 17, 3) := by decide +kernel
theorem dX4_lay_23 : decode cX4_lay 23 = .ok (.aload_n 0, 1) := by decide +kernel
theorem dX4_lay_24 : decode cX4_lay 24 = .ok (.iload_n 2, 1) := by decide +kernel
theorem dX4_lay_25 : decode cX4_lay 25 = .ok (.iconst 1, 1) := by decide +kernel
theorem dX4_lay_26 : decode cX4_lay 26 = .ok (.iconst 1, 1) := by decide +kernel
theorem dX4_lay_27 : decode cX4_lay 27 = .ok (.iconst 1, 1) := by decide +kernel
theorem dX4_lay_28 : decode cX4_lay 28 = .ok (.invokevirtual 35, 3) := by decide +kernel
theorem dX4_lay_31 : decode cX4_lay 31 = .ok (.iinc 2 1, 3) := by decide +kernel
theorem dX4_lay_34 : decode cX4_lay 34 = .ok (.goto (-17), 3) := by decide +kernel
theorem dX4_lay_37 : decode cX4_lay 37 = .ok (.return_, 1) := by decide +kernel
theorem dX4_change_0 : decode cX4_change 0 = .ok (.aload_n 0, 1) := by decide +kernel
theorem dX4_change_1 : decode cX4_change 1 = .ok (.getfield 9, 3) := by decide +kernel
theorem dX4_change_4 : decode cX4_change 4 = .ok (.iload_n 1, 1) := by decide +kernel
theorem dX4_change_5 : decode cX4_change 5 = .ok (.iload_n 2, 1) := by decide +kernel
theorem dX4_change_6 : decode cX4_change 6 = .ok (.iastore, 1) := by decide +kernel
theorem dX4_change_7 : decode cX4_change 7 = .ok (.aload_n 0, 1) := by decide +kernel
theorem dX4_change_8 : decode cX4_change 8 = .ok (.getfield 15, 3) := by decide +kernel
theorem dX4_change_11 : decode cX4_change 11 = .ok (.iload_n 1, 1) := by decide +kernel
theorem dX4_change_12 : decode cX4_change 12 = .ok (.iload_n 3, 1) := by decide +kernel
theorem dX4_change_13 : decode cX4_change 13 = .ok (.iastore, 1) := by decide +kernel
theorem dX4_change_14 : decode cX4_change 14 = .ok (.aload_n 0, 1) := by decide +kernel
theorem dX4_change_15 : decode cX4_change 15 = .ok (.getfield 18, 3) := by decide +kernel
theorem dX4_change_18 : decode cX4_change 18 = .ok (.iload_n 1, 1) := by decide +kernel
theorem dX4_change_19 : decode cX4_change 19 = .ok (.iload 4, 2) := by decide +kernel
theorem dX4_change_21 : decode cX4_change 21 = .ok (.iastore, 1) := by decide +kernel
theorem dX4_change_22 : decode cX4_change 22 = .ok (.return_, 1) := by decide +kernel
theorem dX4_has_0 : decode cX4_has 0 = .ok (.iload_n 1, 1) := by decide +kernel
theorem dX4_has_1 : decode cX4_has 1 = .ok (.ifCond .lt 15, 3) := by decide +kernel
theorem dX4_has_4 : decode cX4_has 4 = .ok (.iload_n 1, 1) := by decide +kernel
theorem dX4_has_5 : decode cX4_has 5 = .ok (.aload_n 0, 1) := by decide +kernel
theorem dX4_has_6 : decode cX4_has 6 = .ok (.getfield 25, 3) := by decide +kernel
theorem dX4_has_9 : decode cX4_has 9 = .ok (.if_icmp .ge 7, 3) := by decide +kernel
theorem dX4_has_12 : decode cX4_has 12 = .ok (.iconst 1, 1) := by decide +kernel
theorem dX4_has_13 : decode cX4_has 13 = .ok (.goto 4, 3) := by decide +kernel
theorem dX4_has_16 : decode cX4_has 16 = .ok (.iconst 0, 1) := by decide +kernel
theorem dX4_has_17 : decode cX4_has 17 = .ok (.ireturn, 1) := by decide +kernel
theorem dX4_hasSet_0 : decode cX4_hasSet 0 = .ok (.iload_n 1, 1) := by decide +kernel
theorem dX4_hasSet_1 : decode cX4_hasSet 1 = .ok (.ifCond .lt 17, 3) := by decide +kernel
theorem dX4_hasSet_4 : decode cX4_hasSet 4 = .ok (.iload_n 1, 1) := by decide +kernel
theorem dX4_hasSet_5 : decode cX4_hasSet 5 = .ok (.iconst 1, 1) := by decide +kernel
theorem dX4_hasSet_6 : decode cX4_hasSet 6 = .ok (.aload_n 0, 1) := by decide +kernel
theorem dX4_hasSet_7 : decode cX4_hasSet 7 = .ok (.getfield 25, 3) := by decide +kernel
theorem dX4_hasSet_10 : decode cX4_hasSet 10 = .ok (.ishl, 1) := by decide +kernel
theorem dX4_hasSet_11 : decode cX4_hasSet 11 = .ok (.if_icmp .ge 7, 3) := by decide +kernel
theorem dX4_hasSet_14 : decode cX4_hasSet 14 = .ok (.iconst 1, 1) := by decide +kernel
theorem dX4_hasSet_15 : decode cX4_hasSet 15 = .ok (.goto 4, 3) := by decide +kernel
theorem dX4_hasSet_18 : decode cX4_hasSet 18 = .ok (.iconst 0, 1) := by decide +kernel
theorem dX4_hasSet_19 : decode cX4_hasSet 19 = .ok (.ireturn, 1) := by decide +kernel
theorem dX4_unseen_0 : decode cX4_unseen 0 = .ok (.iconst 1, 1) := by decide +kernel
theorem dX4_unseen_1 : decode cX4_unseen 1 = .ok (.aload_n 0, 1) := by decide +kernel
theorem dX4_unseen_2 : decode cX4_unseen 2 = .ok (.getfield 25, 3) := by decide +kernel
theorem dX4_unseen_5 : decode cX4_unseen 5 = .ok (.ishl, 1) := by decide +kernel
theorem dX4_unseen_6 : decode cX4_unseen 6 = .ok (.iconst 1, 1) := by decide +kernel
theorem dX4_unseen_7 : decode cX4_unseen 7 = .ok (.isub, 1) := by decide +kernel
theorem dX4_unseen_8 : decode cX4_unseen 8 = .ok (.aload_n 0, 1) := by decide +kernel
theorem dX4_unseen_9 : decode cX4_unseen 9 = .ok (.getfield 29, 3) := by decide +kernel
theorem dX4_unseen_12 : decode cX4_unseen 12 = .ok (.iconst (-1), 1) := by decide +kernel
theorem dX4_unseen_13 : decode cX4_unseen 13 = .ok (.ixor, 1) := by decide +kernel
theorem dX4_unseen_14 : decode cX4_unseen 14 = .ok (.iand, 1) := by decide +kernel
theorem dX4_unseen_15 : decode cX4_unseen 15 = .ok (.ireturn, 1) := by decide +kernel
theorem dX4_fits_0 : decode cX4_fits 0 = .ok (.iload_n 1, 1) := by decide +kernel
theorem dX4_fits_1 : decode cX4_fits 1 = .ok (.aload_n 0, 1) := by decide +kernel
theorem dX4_fits_2 : decode cX4_fits 2 = .ok (.getfield 29, 3) := by decide +kernel
theorem dX4_fits_5 : decode cX4_fits 5 = .ok (.iand, 1) := by decide +kernel
theorem dX4_fits_6 : decode cX4_fits 6 = .ok (.aload_n 0, 1) := by decide +kernel
theorem dX4_fits_7 : decode cX4_fits 7 = .ok (.getfield 32, 3) := by decide +kernel
theorem dX4_fits_10 : decode cX4_fits 10 = .ok (.if_icmp .ne 7, 3) := by decide +kernel
theorem dX4_fits_13 : decode cX4_fits 13 = .ok (.iconst 1, 1) := by decide +kernel
theorem dX4_fits_14 : decode cX4_fits 14 = .ok (.goto 4, 3) := by decide +kernel
theorem dX4_fits_17 : decode cX4_fits 17 = .ok (.iconst 0, 1) := by decide +kernel
theorem dX4_fits_18 : decode cX4_fits 18 = .ok (.ireturn, 1) := by decide +kernel
theorem dX4_note_0 : decode cX4_note 0 = .ok (.iconst 1, 1) := by decide +kernel
theorem dX4_note_1 : decode cX4_note 1 = .ok (.iload_n 1, 1) := by decide +kernel
theorem dX4_note_2 : decode cX4_note 2 = .ok (.ishl, 1) := by decide +kernel
theorem dX4_note_3 : decode cX4_note 3 = .ok (.istore_n 3, 1) := by decide +kernel
theorem dX4_note_4 : decode cX4_note 4 = .ok (.aload_n 0, 1) := by decide +kernel
theorem dX4_note_5 : decode cX4_note 5 = .ok (.iload_n 2, 1) := by decide +kernel
theorem dX4_note_6 : decode cX4_note 6 = .ok (.iconst (-1), 1) := by decide +kernel
theorem dX4_note_7 : decode cX4_note 7 = .ok (.if_icmp .ne 14, 3) := by decide +kernel
theorem dX4_note_10 : decode cX4_note 10 = .ok (.aload_n 0, 1) := by decide +kernel
theorem dX4_note_11 : decode cX4_note 11 = .ok (.getfield 29, 3) := by decide +kernel
theorem dX4_note_14 : decode cX4_note 14 = .ok (.iload_n 3, 1) := by decide +kernel
theorem dX4_note_15 : decode cX4_note 15 = .ok (.iconst (-1), 1) := by decide +kernel
theorem dX4_note_16 : decode cX4_note 16 = .ok (.ixor, 1) := by decide +kernel
theorem dX4_note_17 : decode cX4_note 17 = .ok (.iand, 1) := by decide +kernel
theorem dX4_note_18 : decode cX4_note 18 = .ok (.goto 9, 3) := by decide +kernel
theorem dX4_note_21 : decode cX4_note 21 = .ok (.aload_n 0, 1) := by decide +kernel
theorem dX4_note_22 : decode cX4_note 22 = .ok (.getfield 29, 3) := by decide +kernel
theorem dX4_note_25 : decode cX4_note 25 = .ok (.iload_n 3, 1) := by decide +kernel
theorem dX4_note_26 : decode cX4_note 26 = .ok (.ior, 1) := by decide +kernel
theorem dX4_note_27 : decode cX4_note 27 = .ok (.putfield 29, 3) := by decide +kernel
theorem dX4_note_30 : decode cX4_note 30 = .ok (.aload_n 0, 1) := by decide +kernel
theorem dX4_note_31 : decode cX4_note 31 = .ok (.iload_n 2, 1) := by decide +kernel
theorem dX4_note_32 : decode cX4_note 32 = .ok (.iconst 1, 1) := by decide +kernel
theorem dX4_note_33 : decode cX4_note 33 = .ok (.if_icmp .ne 12, 3) := by decide +kernel
theorem dX4_note_36 : decode cX4_note 36 = .ok (.aload_n 0, 1) := by decide +kernel
theorem dX4_note_37 : decode cX4_note 37 = .ok (.getfield 32, 3) := by decide +kernel
theorem dX4_note_40 : decode cX4_note 40 = .ok (.iload_n 3, 1) := by decide +kernel
theorem dX4_note_41 : decode cX4_note 41 = .ok (.ior, 1) := by decide +kernel
theorem dX4_note_42 : decode cX4_note 42 = .ok (.goto 11, 3) := by decide +kernel
theorem dX4_note_45 : decode cX4_note 45 = .ok (.aload_n 0, 1) := by decide +kernel
theorem dX4_note_46 : decode cX4_note 46 = .ok (.getfield 32, 3) := by decide +kernel
theorem dX4_note_49 : decode cX4_note 49 = .ok (.iload_n 3, 1) := by decide +kernel
theorem dX4_note_50 : decode cX4_note 50 = .ok (.iconst (-1), 1) := by decide +kernel
theorem dX4_note_51 : decode cX4_note 51 = .ok (.ixor, 1) := by decide +kernel
theorem dX4_note_52 : decode cX4_note 52 = .ok (.iand, 1) := by decide +kernel
theorem dX4_note_53 : decode cX4_note 53 = .ok (.putfield 32, 3) := by decide +kernel
theorem dX4_note_56 : decode cX4_note 56 = .ok (.return_, 1) := by decide +kernel
theorem dX4_noted_0 : decode cX4_noted 0 = .ok (.aload_n 0, 1) := by decide +kernel
theorem dX4_noted_1 : decode cX4_noted 1 = .ok (.getfield 29, 3) := by decide +kernel
theorem dX4_noted_4 : decode cX4_noted 4 = .ok (.iload_n 1, 1) := by decide +kernel
theorem dX4_noted_5 : decode cX4_noted 5 = .ok (.ishr, 1) := by decide +kernel
theorem dX4_noted_6 : decode cX4_noted 6 = .ok (.iconst 1, 1) := by decide +kernel
theorem dX4_noted_7 : decode cX4_noted 7 = .ok (.iand, 1) := by decide +kernel
theorem dX4_noted_8 : decode cX4_noted 8 = .ok (.ifCond .ne 5, 3) := by decide +kernel
theorem dX4_noted_11 : decode cX4_noted 11 = .ok (.iconst (-1), 1) := by decide +kernel
theorem dX4_noted_12 : decode cX4_noted 12 = .ok (.ireturn, 1) := by decide +kernel
theorem dX4_noted_13 : decode cX4_noted 13 = .ok (.aload_n 0, 1) := by decide +kernel
theorem dX4_noted_14 : decode cX4_noted 14 = .ok (.getfield 32, 3) := by decide +kernel
theorem dX4_noted_17 : decode cX4_noted 17 = .ok (.iload_n 1, 1) := by decide +kernel
theorem dX4_noted_18 : decode cX4_noted 18 = .ok (.ishr, 1) := by decide +kernel
theorem dX4_noted_19 : decode cX4_noted 19 = .ok (.iconst 1, 1) := by decide +kernel
theorem dX4_noted_20 : decode cX4_noted 20 = .ok (.iand, 1) := by decide +kernel
theorem dX4_noted_21 : decode cX4_noted 21 = .ok (.ireturn, 1) := by decide +kernel
theorem dX4_left_0 : decode cX4_left 0 = .ok (.lconst 1, 1) := by decide +kernel
theorem dX4_left_1 : decode cX4_left 1 = .ok (.lstore_n 3, 1) := by decide +kernel
theorem dX4_left_2 : decode cX4_left 2 = .ok (.iconst 0, 1) := by decide +kernel
theorem dX4_left_3 : decode cX4_left 3 = .ok (.istore 5, 2) := by decide +kernel
theorem dX4_left_5 : decode cX4_left 5 = .ok (.iload 5, 2) := by decide +kernel
theorem dX4_left_7 : decode cX4_left 7 = .ok (.aload_n 0, 1) := by decide +kernel
theorem dX4_left_8 : decode cX4_left 8 = .ok (.getfield 25, 3) := by decide +kernel
theorem dX4_left_11 : decode cX4_left 11 = .ok (.if_icmp .ge 72, 3) := by decide +kernel
theorem dX4_left_14 : decode cX4_left 14 = .ok (.iload_n 1, 1) := by decide +kernel
theorem dX4_left_15 : decode cX4_left 15 = .ok (.iload 5, 2) := by decide +kernel
theorem dX4_left_17 : decode cX4_left 17 = .ok (.ishr, 1) := by decide +kernel
theorem dX4_left_18 : decode cX4_left 18 = .ok (.iconst 1, 1) := by decide +kernel
theorem dX4_left_19 : decode cX4_left 19 = .ok (.iand, 1) := by decide +kernel
theorem dX4_left_20 : decode cX4_left 20 = .ok (.ifCond .ne 25, 3) := by decide +kernel
theorem dX4_left_23 : decode cX4_left 23 = .ok (.lload_n 3, 1) := by decide +kernel
theorem dX4_left_24 : decode cX4_left 24 = .ok (.aload_n 0, 1) := by decide +kernel
theorem dX4_left_25 : decode cX4_left 25 = .ok (.getfield 9, 3) := by decide +kernel
theorem dX4_left_28 : decode cX4_left 28 = .ok (.iload 5, 2) := by decide +kernel
theorem dX4_left_30 : decode cX4_left 30 = .ok (.iaload, 1) := by decide +kernel
theorem dX4_left_31 : decode cX4_left 31 = .ok (.aload_n 0, 1) := by decide +kernel
theorem dX4_left_32 : decode cX4_left 32 = .ok (.getfield 15, 3) := by decide +kernel
theorem dX4_left_35 : decode cX4_left 35 = .ok (.iload 5, 2) := by decide +kernel
theorem dX4_left_37 : decode cX4_left 37 = .ok (.iaload, 1) := by decide +kernel
theorem dX4_left_38 : decode cX4_left 38 = .ok (.iadd, 1) := by decide +kernel
theorem dX4_left_39 : decode cX4_left 39 = .ok (.i2l, 1) := by decide +kernel
theorem dX4_left_40 : decode cX4_left 40 = .ok (.lmul, 1) := by decide +kernel
theorem dX4_left_41 : decode cX4_left 41 = .ok (.lstore_n 3, 1) := by decide +kernel
theorem dX4_left_42 : decode cX4_left 42 = .ok (.goto 35, 3) := by decide +kernel
theorem dX4_left_45 : decode cX4_left 45 = .ok (.lload_n 3, 1) := by decide +kernel
theorem dX4_left_46 : decode cX4_left 46 = .ok (.iload_n 2, 1) := by decide +kernel
theorem dX4_left_47 : decode cX4_left 47 = .ok (.iload 5, 2) := by decide +kernel
theorem dX4_left_49 : decode cX4_left 49 = .ok (.ishr, 1) := by decide +kernel
theorem dX4_left_50 : decode cX4_left 50 = .ok (.iconst 1, 1) := by decide +kernel
theorem dX4_left_51 : decode cX4_left 51 = .ok (.iand, 1) := by decide +kernel
theorem dX4_left_52 : decode cX4_left 52 = .ok (.iconst 1, 1) := by decide +kernel
theorem dX4_left_53 : decode cX4_left 53 = .ok (.if_icmp .ne 14, 3) := by decide +kernel
theorem dX4_left_56 : decode cX4_left 56 = .ok (.aload_n 0, 1) := by decide +kernel
theorem dX4_left_57 : decode cX4_left 57 = .ok (.getfield 9, 3) := by decide +kernel
theorem dX4_left_60 : decode cX4_left 60 = .ok (.iload 5, 2) := by decide +kernel
theorem dX4_left_62 : decode cX4_left 62 = .ok (.iaload, 1) := by decide +kernel
theorem dX4_left_63 : decode cX4_left 63 = .ok (.i2l, 1) := by decide +kernel
theorem dX4_left_64 : decode cX4_left 64 = .ok (.goto 11, 3) := by decide +kernel
theorem dX4_left_67 : decode cX4_left 67 = .ok (.aload_n 0, 1) := by decide +kernel
theorem dX4_left_68 : decode cX4_left 68 = .ok (.getfield 15, 3) := by decide +kernel
theorem dX4_left_71 : decode cX4_left 71 = .ok (.iload 5, 2) := by decide +kernel
theorem dX4_left_73 : decode cX4_left 73 = .ok (.iaload, 1) := by decide +kernel
theorem dX4_left_74 : decode cX4_left 74 = .ok (.i2l, 1) := by decide +kernel
theorem dX4_left_75 : decode cX4_left 75 = .ok (.lmul, 1) := by decide +kernel
theorem dX4_left_76 : decode cX4_left 76 = .ok (.lstore_n 3, 1) := by decide +kernel
theorem dX4_left_77 : decode cX4_left 77 = .ok (.iinc 5 1, 3) := by decide +kernel
theorem dX4_left_80 : decode cX4_left 80 = .ok (.goto (-75), 3) := by decide +kernel
theorem dX4_left_83 : decode cX4_left 83 = .ok (.lload_n 3, 1) := by decide +kernel
theorem dX4_left_84 : decode cX4_left 84 = .ok (.lreturn, 1) := by decide +kernel
set_option maxRecDepth 20000 in
theorem ggX4_weight_X4_left : GoodIn wsX4_weight wsX4_left := goodIn_r _ [6, 1, 7, 8, 9, 10, 11, 12, 13, 14] rfl (by decide +kernel)
set_option maxRecDepth 20000 in
theorem gX4_weight_X4_left : GoodIn wsX4_weight (wsV RX4 39 RX4 yX4_left wsX4_left) := goodIn_app (goodIn_of _ (by decide +kernel)) ggX4_weight_X4_left
theorem dX4_weight_0 : decode cX4_weight 0 = .ok (.aload_n 0, 1) := by decide +kernel
theorem dX4_weight_1 : decode cX4_weight 1 = .ok (.iconst 1, 1) := by decide +kernel
theorem dX4_weight_2 : decode cX4_weight 2 = .ok (.aload_n 0, 1) := by decide +kernel
theorem dX4_weight_3 : decode cX4_weight 3 = .ok (.getfield 25, 3) := by decide +kernel
theorem dX4_weight_6 : decode cX4_weight 6 = .ok (.ishl, 1) := by decide +kernel
theorem dX4_weight_7 : decode cX4_weight 7 = .ok (.iconst 1, 1) := by decide +kernel
theorem dX4_weight_8 : decode cX4_weight 8 = .ok (.isub, 1) := by decide +kernel
theorem dX4_weight_9 : decode cX4_weight 9 = .ok (.iload_n 1, 1) := by decide +kernel
theorem dX4_weight_10 : decode cX4_weight 10 = .ok (.invokevirtual 39, 3) := by decide +kernel
theorem dX4_weight_13 : decode cX4_weight 13 = .ok (.lreturn, 1) := by decide +kernel
theorem dX4_priceOfSet_0 : decode cX4_priceOfSet 0 = .ok (.iconst 0, 1) := by decide +kernel
theorem dX4_priceOfSet_1 : decode cX4_priceOfSet 1 = .ok (.istore_n 2, 1) := by decide +kernel
theorem dX4_priceOfSet_2 : decode cX4_priceOfSet 2 = .ok (.iconst 0, 1) := by decide +kernel
theorem dX4_priceOfSet_3 : decode cX4_priceOfSet 3 = .ok (.istore_n 3, 1) := by decide +kernel
theorem dX4_priceOfSet_4 : decode cX4_priceOfSet 4 = .ok (.iload_n 3, 1) := by decide +kernel
theorem dX4_priceOfSet_5 : decode cX4_priceOfSet 5 = .ok (.aload_n 0, 1) := by decide +kernel
theorem dX4_priceOfSet_6 : decode cX4_priceOfSet 6 = .ok (.getfield 25, 3) := by decide +kernel
theorem dX4_priceOfSet_9 : decode cX4_priceOfSet 9 = .ok (.if_icmp .ge 27, 3) := by decide +kernel
theorem dX4_priceOfSet_12 : decode cX4_priceOfSet 12 = .ok (.iload_n 1, 1) := by decide +kernel
theorem dX4_priceOfSet_13 : decode cX4_priceOfSet 13 = .ok (.iload_n 3, 1) := by decide +kernel
theorem dX4_priceOfSet_14 : decode cX4_priceOfSet 14 = .ok (.ishr, 1) := by decide +kernel
theorem dX4_priceOfSet_15 : decode cX4_priceOfSet 15 = .ok (.iconst 1, 1) := by decide +kernel
theorem dX4_priceOfSet_16 : decode cX4_priceOfSet 16 = .ok (.iand, 1) := by decide +kernel
theorem dX4_priceOfSet_17 : decode cX4_priceOfSet 17 = .ok (.iconst 1, 1) := by decide +kernel
theorem dX4_priceOfSet_18 : decode cX4_priceOfSet 18 = .ok (.if_icmp .ne 12, 3) := by decide +kernel
theorem dX4_priceOfSet_21 : decode cX4_priceOfSet 21 = .ok (.iload_n 2, 1) := by decide +kernel
theorem dX4_priceOfSet_22 : decode cX4_priceOfSet 22 = .ok (.aload_n 0, 1) := by decide +kernel
theorem dX4_priceOfSet_23 : decode cX4_priceOfSet 23 = .ok (.getfield 18, 3) := by decide +kernel
theorem dX4_priceOfSet_26 : decode cX4_priceOfSet 26 = .ok (.iload_n 3, 1) := by decide +kernel
theorem dX4_priceOfSet_27 : decode cX4_priceOfSet 27 = .ok (.iaload, 1) := by decide +kernel
theorem dX4_priceOfSet_28 : decode cX4_priceOfSet 28 = .ok (.iadd, 1) := by decide +kernel
theorem dX4_priceOfSet_29 : decode cX4_priceOfSet 29 = .ok (.istore_n 2, 1) := by decide +kernel
theorem dX4_priceOfSet_30 : decode cX4_priceOfSet 30 = .ok (.iinc 3 1, 3) := by decide +kernel
theorem dX4_priceOfSet_33 : decode cX4_priceOfSet 33 = .ok (.goto (-29), 3) := by decide +kernel
theorem dX4_priceOfSet_36 : decode cX4_priceOfSet 36 = .ok (.iload_n 2, 1) := by decide +kernel
theorem dX4_priceOfSet_37 : decode cX4_priceOfSet 37 = .ok (.ireturn, 1) := by decide +kernel
theorem dX5_init_0 : decode cX5_init 0 = .ok (.aload_n 0, 1) := by decide +kernel
theorem dX5_init_1 : decode cX5_init 1 = .ok (.invokespecial 3, 3) := by decide +kernel
theorem dX5_init_4 : decode cX5_init 4 = .ok (.aload_n 0, 1) := by decide +kernel
theorem dX5_init_5 : decode cX5_init 5 = .ok (.bipush 9, 2) := by decide +kernel
theorem dX5_init_7 : decode cX5_init 7 = .ok (.newarray .int, 2) := by decide +kernel
theorem dX5_init_9 : decode cX5_init 9 = .ok (.putfield 9, 3) := by decide +kernel
theorem dX5_init_12 : decode cX5_init 12 = .ok (.return_, 1) := by decide +kernel
theorem dX5_append_0 : decode cX5_append 0 = .ok (.aload_n 0, 1) := by decide +kernel
theorem dX5_append_1 : decode cX5_append 1 = .ok (.getfield 15, 3) := by decide +kernel
theorem dX5_append_4 : decode cX5_append 4 = .ok (.bipush 9, 2) := by decide +kernel
theorem dX5_append_6 : decode cX5_append 6 = .ok (.if_icmp .ge 20, 3) := by decide +kernel
theorem dX5_append_9 : decode cX5_append 9 = .ok (.aload_n 0, 1) := by decide +kernel
theorem dX5_append_10 : decode cX5_append 10 = .ok (.getfield 9, 3) := by decide +kernel
theorem dX5_append_13 : decode cX5_append 13 = .ok (.aload_n 0, 1) := by decide +kernel
theorem dX5_append_14 : decode cX5_append 14 = .ok (.dup, 1) := by decide +kernel
theorem dX5_append_15 : decode cX5_append 15 = .ok (.getfield 15, 3) := by decide +kernel
theorem dX5_append_18 : decode cX5_append 18 = .ok (.dup_x1, 1) := by decide +kernel
theorem dX5_append_19 : decode cX5_append 19 = .ok (.iconst 1, 1) := by decide +kernel
theorem dX5_append_20 : decode cX5_append 20 = .ok (.iadd, 1) := by decide +kernel
theorem dX5_append_21 : decode cX5_append 21 = .ok (.putfield 15, 3) := by decide +kernel
theorem dX5_append_24 : decode cX5_append 24 = .ok (.iload_n 1, 1) := by decide +kernel
theorem dX5_append_25 : decode cX5_append 25 = .ok (.iastore, 1) := by decide +kernel
theorem dX5_append_26 : decode cX5_append 26 = .ok (.return_, 1) := by decide +kernel
set_option maxRecDepth 20000 in
theorem ggX6_init_X4_init : GoodIn wsX6_init wsX4_init := goodIn_r _ [30, 31, 2, 3, 32, 33, 34, 35, 36, 37, 38, 6, 39, 40, 41, 42, 43, 44, 45, 46, 86, 87, 88, 89, 90, 91] rfl (by decide +kernel)
set_option maxRecDepth 20000 in
theorem gX6_init_X4_init : GoodIn wsX6_init (wsX4_init) := ggX6_init_X4_init
set_option maxRecDepth 20000 in
theorem ggX6_init_X3_init : GoodIn wsX6_init wsX3_init := goodIn_r _ [49, 50, 2, 3, 51, 52, 32, 53, 54, 55, 56, 10, 57, 58, 59, 60, 98, 99, 100, 101, 102] rfl (by decide +kernel)
set_option maxRecDepth 20000 in
theorem gX6_init_X3_init : GoodIn wsX6_init (wsX3_init) := ggX6_init_X3_init
set_option maxRecDepth 20000 in
theorem ggX6_init_X2_init : GoodIn wsX6_init wsX2_init := goodIn_r _ [62, 63, 2, 3, 32, 64, 103, 104] rfl (by decide +kernel)
set_option maxRecDepth 20000 in
theorem gX6_init_X2_init_n25 : GoodIn wsX6_init (wsX2_init) := ggX6_init_X2_init
set_option maxRecDepth 20000 in
theorem ggX6_init_X1_init : GoodIn wsX6_init wsX1_init := goodIn_r _ [67, 68, 2, 3, 32, 69, 51, 70, 71, 72, 73, 74, 105, 106, 107, 108, 109, 110, 111] rfl (by decide +kernel)
set_option maxRecDepth 20000 in
theorem gX6_init_X1_init : GoodIn wsX6_init (wsX1_init) := ggX6_init_X1_init
set_option maxRecDepth 20000 in
theorem ggX6_init_X0_init : GoodIn wsX6_init wsX0_init := goodIn_r _ [77, 78, 2, 3, 32, 79, 80, 81, 112, 113, 114] rfl (by decide +kernel)
set_option maxRecDepth 20000 in
theorem gX6_init_X0_init : GoodIn wsX6_init (wsX0_init) := ggX6_init_X0_init
set_option maxRecDepth 20000 in
theorem ggX6_init_X5_init : GoodIn wsX6_init wsX5_init := goodIn_r _ [83, 84, 2, 3, 32, 85, 115, 116] rfl (by decide +kernel)
set_option maxRecDepth 20000 in
theorem gX6_init_X5_init_n50 : GoodIn wsX6_init (wsX5_init) := ggX6_init_X5_init
theorem dX6_init_0 : decode cX6_init 0 = .ok (.aload_n 0, 1) := by decide +kernel
theorem dX6_init_1 : decode cX6_init 1 = .ok (.invokespecial 1, 3) := by decide +kernel
theorem dX6_init_4 : decode cX6_init 4 = .ok (.aload_n 0, 1) := by decide +kernel
theorem dX6_init_5 : decode cX6_init 5 = .ok (.new 7, 3) := by decide +kernel
theorem dX6_init_8 : decode cX6_init 8 = .ok (.dup, 1) := by decide +kernel
theorem dX6_init_9 : decode cX6_init 9 = .ok (.invokespecial 9, 3) := by decide +kernel
theorem dX6_init_12 : decode cX6_init 12 = .ok (.putfield 10, 3) := by decide +kernel
theorem dX6_init_15 : decode cX6_init 15 = .ok (.aload_n 0, 1) := by decide +kernel
theorem dX6_init_16 : decode cX6_init 16 = .ok (.new 16, 3) := by decide +kernel
theorem dX6_init_19 : decode cX6_init 19 = .ok (.dup, 1) := by decide +kernel
theorem dX6_init_20 : decode cX6_init 20 = .ok (.invokespecial 18, 3) := by decide +kernel
theorem dX6_init_23 : decode cX6_init 23 = .ok (.putfield 19, 3) := by decide +kernel
theorem dX6_init_26 : decode cX6_init 26 = .ok (.aload_n 0, 1) := by decide +kernel
theorem dX6_init_27 : decode cX6_init 27 = .ok (.new 23, 3) := by decide +kernel
theorem dX6_init_30 : decode cX6_init 30 = .ok (.dup, 1) := by decide +kernel
theorem dX6_init_31 : decode cX6_init 31 = .ok (.invokespecial 25, 3) := by decide +kernel
theorem dX6_init_34 : decode cX6_init 34 = .ok (.putfield 26, 3) := by decide +kernel
theorem dX6_init_37 : decode cX6_init 37 = .ok (.aload_n 0, 1) := by decide +kernel
theorem dX6_init_38 : decode cX6_init 38 = .ok (.new 30, 3) := by decide +kernel
theorem dX6_init_41 : decode cX6_init 41 = .ok (.dup, 1) := by decide +kernel
theorem dX6_init_42 : decode cX6_init 42 = .ok (.aload_n 0, 1) := by decide +kernel
theorem dX6_init_43 : decode cX6_init 43 = .ok (.getfield 10, 3) := by decide +kernel
theorem dX6_init_46 : decode cX6_init 46 = .ok (.aload_n 0, 1) := by decide +kernel
theorem dX6_init_47 : decode cX6_init 47 = .ok (.getfield 19, 3) := by decide +kernel
theorem dX6_init_50 : decode cX6_init 50 = .ok (.aload_n 0, 1) := by decide +kernel
theorem dX6_init_51 : decode cX6_init 51 = .ok (.getfield 26, 3) := by decide +kernel
theorem dX6_init_54 : decode cX6_init 54 = .ok (.invokespecial 32, 3) := by decide +kernel
theorem dX6_init_57 : decode cX6_init 57 = .ok (.putfield 35, 3) := by decide +kernel
theorem dX6_init_60 : decode cX6_init 60 = .ok (.aload_n 0, 1) := by decide +kernel
theorem dX6_init_61 : decode cX6_init 61 = .ok (.new 39, 3) := by decide +kernel
theorem dX6_init_64 : decode cX6_init 64 = .ok (.dup, 1) := by decide +kernel
theorem dX6_init_65 : decode cX6_init 65 = .ok (.aload_n 0, 1) := by decide +kernel
theorem dX6_init_66 : decode cX6_init 66 = .ok (.getfield 10, 3) := by decide +kernel
theorem dX6_init_69 : decode cX6_init 69 = .ok (.aload_n 0, 1) := by decide +kernel
theorem dX6_init_70 : decode cX6_init 70 = .ok (.getfield 19, 3) := by decide +kernel
theorem dX6_init_73 : decode cX6_init 73 = .ok (.invokespecial 41, 3) := by decide +kernel
theorem dX6_init_76 : decode cX6_init 76 = .ok (.putfield 44, 3) := by decide +kernel
theorem dX6_init_79 : decode cX6_init 79 = .ok (.aload_n 0, 1) := by decide +kernel
theorem dX6_init_80 : decode cX6_init 80 = .ok (.new 48, 3) := by decide +kernel
theorem dX6_init_83 : decode cX6_init 83 = .ok (.dup, 1) := by decide +kernel
theorem dX6_init_84 : decode cX6_init 84 = .ok (.invokespecial 50, 3) := by decide +kernel
theorem dX6_init_87 : decode cX6_init 87 = .ok (.putfield 51, 3) := by decide +kernel
theorem dX6_init_90 : decode cX6_init 90 = .ok (.return_, 1) := by decide +kernel
set_option maxRecDepth 20000 in
theorem ggX6_parts_X4_lay : GoodIn wsX6_parts wsX4_lay := goodIn_r _ [9, 10, 11, 12, 13, 14, 15, 8, 16, 17, 18, 19, 46, 47, 48, 49, 50, 51] rfl (by decide +kernel)
set_option maxRecDepth 20000 in
theorem gX6_parts_X4_lay : GoodIn wsX6_parts (wsV RX6 55 RX4 yX4_lay wsX4_lay) := goodIn_app (goodIn_of _ (by decide +kernel)) ggX6_parts_X4_lay
set_option maxRecDepth 20000 in
theorem ggX6_parts_X3_begin : GoodIn wsX6_parts wsX3_begin := goodIn_r _ [24, 25, 26, 27, 52, 53, 54, 55, 56] rfl (by decide +kernel)
set_option maxRecDepth 20000 in
theorem gX6_parts_X3_begin : GoodIn wsX6_parts (wsV RX6 59 RX3 yX3_begin wsX3_begin) := goodIn_app (goodIn_of _ (by decide +kernel)) ggX6_parts_X3_begin
set_option maxRecDepth 20000 in
theorem ggX6_parts_X2_clear : GoodIn wsX6_parts wsX2_clear := goodIn_r _ [32, 33, 57, 58] rfl (by decide +kernel)
set_option maxRecDepth 20000 in
theorem gX6_parts_X2_clear : GoodIn wsX6_parts (wsV RX6 62 RX2 yX2_clear wsX2_clear) := goodIn_app (goodIn_of _ (by decide +kernel)) ggX6_parts_X2_clear
set_option maxRecDepth 20000 in
theorem ggX6_parts_X1_forget : GoodIn wsX6_parts wsX1_forget := goodIn_r _ [38, 39, 59, 60, 61, 62, 63, 64, 65] rfl (by decide +kernel)
set_option maxRecDepth 20000 in
theorem gX6_parts_X1_forget : GoodIn wsX6_parts (wsV RX6 65 RX1 yX1_forget wsX1_forget) := goodIn_app (goodIn_of _ (by decide +kernel)) ggX6_parts_X1_forget
theorem dX6_parts_0 : decode cX6_parts 0 = .ok (.iload_n 1, 1) := by decide +kernel
theorem dX6_parts_1 : decode cX6_parts 1 = .ok (.iconst 1, 1) := by decide +kernel
theorem dX6_parts_2 : decode cX6_parts 2 = .ok (.if_icmp .lt 9, 3) := by decide +kernel
theorem dX6_parts_5 : decode cX6_parts 5 = .ok (.iload_n 1, 1) := by decide +kernel
theorem dX6_parts_6 : decode cX6_parts 6 = .ok (.bipush 9, 2) := by decide +kernel
theorem dX6_parts_8 : decode cX6_parts 8 = .ok (.if_icmp .le 5, 3) := by decide +kernel
theorem dX6_parts_11 : decode cX6_parts 11 = .ok (.iconst 0, 1) := by decide +kernel
theorem dX6_parts_12 : decode cX6_parts 12 = .ok (.ireturn, 1) := by decide +kernel
theorem dX6_parts_13 : decode cX6_parts 13 = .ok (.aload_n 0, 1) := by decide +kernel
theorem dX6_parts_14 : decode cX6_parts 14 = .ok (.getfield 10, 3) := by decide +kernel
theorem dX6_parts_17 : decode cX6_parts 17 = .ok (.iload_n 1, 1) := by decide +kernel
theorem dX6_parts_18 : decode cX6_parts 18 = .ok (.invokevirtual 55, 3) := by decide +kernel
theorem dX6_parts_21 : decode cX6_parts 21 = .ok (.aload_n 0, 1) := by decide +kernel
theorem dX6_parts_22 : decode cX6_parts 22 = .ok (.getfield 19, 3) := by decide +kernel
theorem dX6_parts_25 : decode cX6_parts 25 = .ok (.iload_n 1, 1) := by decide +kernel
theorem dX6_parts_26 : decode cX6_parts 26 = .ok (.invokevirtual 59, 3) := by decide +kernel
theorem dX6_parts_29 : decode cX6_parts 29 = .ok (.aload_n 0, 1) := by decide +kernel
theorem dX6_parts_30 : decode cX6_parts 30 = .ok (.getfield 26, 3) := by decide +kernel
theorem dX6_parts_33 : decode cX6_parts 33 = .ok (.invokevirtual 62, 3) := by decide +kernel
theorem dX6_parts_36 : decode cX6_parts 36 = .ok (.aload_n 0, 1) := by decide +kernel
theorem dX6_parts_37 : decode cX6_parts 37 = .ok (.getfield 35, 3) := by decide +kernel
theorem dX6_parts_40 : decode cX6_parts 40 = .ok (.invokevirtual 65, 3) := by decide +kernel
theorem dX6_parts_43 : decode cX6_parts 43 = .ok (.iconst 1, 1) := by decide +kernel
theorem dX6_parts_44 : decode cX6_parts 44 = .ok (.ireturn, 1) := by decide +kernel
set_option maxRecDepth 20000 in
theorem ggX6_part_X4_has : GoodIn wsX6_part wsX4_has := goodIn_r _ [7, 8, 28, 29, 30, 31, 32, 33] rfl (by decide +kernel)
set_option maxRecDepth 20000 in
theorem gX6_part_X4_has : GoodIn wsX6_part (wsV RX6 68 RX4 yX4_has wsX4_has) := goodIn_app (goodIn_of _ (by decide +kernel)) ggX6_part_X4_has
set_option maxRecDepth 20000 in
theorem ggX6_part_X4_change : GoodIn wsX6_part wsX4_change := goodIn_r _ [12, 13, 14, 15, 28, 29, 30, 31, 32, 33] rfl (by decide +kernel)
set_option maxRecDepth 20000 in
theorem gX6_part_X4_change : GoodIn wsX6_part (wsV RX6 72 RX4 yX4_change wsX4_change) := goodIn_app (goodIn_of _ (by decide +kernel)) ggX6_part_X4_change
set_option maxRecDepth 20000 in
theorem ggX6_part_X1_forget : GoodIn wsX6_part wsX1_forget := goodIn_r _ [20, 21, 34, 35, 36, 37, 38, 39, 40] rfl (by decide +kernel)
set_option maxRecDepth 20000 in
theorem gX6_part_X1_forget : GoodIn wsX6_part (wsV RX6 65 RX1 yX1_forget wsX1_forget) := goodIn_app (goodIn_of _ (by decide +kernel)) ggX6_part_X1_forget
theorem dX6_part_0 : decode cX6_part 0 = .ok (.aload_n 0, 1) := by decide +kernel
theorem dX6_part_1 : decode cX6_part 1 = .ok (.getfield 10, 3) := by decide +kernel
theorem dX6_part_4 : decode cX6_part 4 = .ok (.iload_n 1, 1) := by decide +kernel
theorem dX6_part_5 : decode cX6_part 5 = .ok (.invokevirtual 68, 3) := by decide +kernel
theorem dX6_part_8 : decode cX6_part 8 = .ok (.ifCond .eq 38, 3) := by decide +kernel
theorem dX6_part_11 : decode cX6_part 11 = .ok (.iload_n 2, 1) := by decide +kernel
theorem dX6_part_12 : decode cX6_part 12 = .ok (.iconst 1, 1) := by decide +kernel
theorem dX6_part_13 : decode cX6_part 13 = .ok (.if_icmp .lt 33, 3) := by decide +kernel
theorem dX6_part_16 : decode cX6_part 16 = .ok (.iload_n 2, 1) := by decide +kernel
theorem dX6_part_17 : decode cX6_part 17 = .ok (.bipush 9, 2) := by decide +kernel
theorem dX6_part_19 : decode cX6_part 19 = .ok (.if_icmp .gt 27, 3) := by decide +kernel
theorem dX6_part_22 : decode cX6_part 22 = .ok (.iload_n 3, 1) := by decide +kernel
theorem dX6_part_23 : decode cX6_part 23 = .ok (.iconst 1, 1) := by decide +kernel
theorem dX6_part_24 : decode cX6_part 24 = .ok (.if_icmp .lt 22, 3) := by decide +kernel
theorem dX6_part_27 : decode cX6_part 27 = .ok (.iload_n 3, 1) := by decide +kernel
theorem dX6_part_28 : decode cX6_part 28 = .ok (.bipush 9, 2) := by decide +kernel
theorem dX6_part_30 : decode cX6_part 30 = .ok (.if_icmp .gt 16, 3) := by decide +kernel
theorem dX6_part_33 : decode cX6_part 33 = .ok (.iload 4, 2) := by decide +kernel
theorem dX6_part_35 : decode cX6_part 35 = .ok (.ifCond .lt 11, 3) := by decide +kernel
theorem dX6_part_38 : decode cX6_part 38 = .ok (.iload 4, 2) := by decide +kernel
theorem dX6_part_40 : decode cX6_part 40 = .ok (.sipush 1000, 3) := by decide +kernel
theorem dX6_part_43 : decode cX6_part 43 = .ok (.if_icmp .le 5, 3) := by decide +kernel
theorem dX6_part_46 : decode cX6_part 46 = .ok (.iconst 0, 1) := by decide +kernel
theorem dX6_part_47 : decode cX6_part 47 = .ok (.ireturn, 1) := by decide +kernel
theorem dX6_part_48 : decode cX6_part 48 = .ok (.aload_n 0, 1) := by decide +kernel
theorem dX6_part_49 : decode cX6_part 49 = .ok (.getfield 10, 3) := by decide +kernel
theorem dX6_part_52 : decode cX6_part 52 = .ok (.iload_n 1, 1) := by decide +kernel
theorem dX6_part_53 : decode cX6_part 53 = .ok (.iload_n 2, 1) := by decide +kernel
