theorem dX6_part_54 : decode cX6_part 54 = .ok (.iload_n 3, 1) := by decide +kernel
theorem dX6_part_55 : decode cX6_part 55 = .ok (.iload 4, 2) := by decide +kernel
theorem dX6_part_57 : decode cX6_part 57 = .ok (.invokevirtual 72, 3) := by decide +kernel
theorem dX6_part_60 : decode cX6_part 60 = .ok (.aload_n 0, 1) := by decide +kernel
theorem dX6_part_61 : decode cX6_part 61 = .ok (.getfield 35, 3) := by decide +kernel
theorem dX6_part_64 : decode cX6_part 64 = .ok (.invokevirtual 65, 3) := by decide +kernel
theorem dX6_part_67 : decode cX6_part 67 = .ok (.iconst 1, 1) := by decide +kernel
theorem dX6_part_68 : decode cX6_part 68 = .ok (.ireturn, 1) := by decide +kernel
set_option maxRecDepth 20000 in
theorem ggX6_single_X4_has : GoodIn wsX6_single wsX4_has := goodIn_r _ [7, 8, 35, 36, 37, 38, 39, 40] rfl (by decide +kernel)
set_option maxRecDepth 20000 in
theorem gX6_single_X4_has : GoodIn wsX6_single (wsV RX6 68 RX4 yX4_has wsX4_has) := goodIn_app (goodIn_of _ (by decide +kernel)) ggX6_single_X4_has
set_option maxRecDepth 20000 in
theorem ggX6_single_X3_hasRoom : GoodIn wsX6_single wsX3_hasRoom := goodIn_r _ [13, 14, 41, 42, 43, 44, 45] rfl (by decide +kernel)
set_option maxRecDepth 20000 in
theorem gX6_single_X3_hasRoom : GoodIn wsX6_single (wsV RX6 76 RX3 yX3_hasRoom wsX3_hasRoom) := goodIn_app (goodIn_of _ (by decide +kernel)) ggX6_single_X3_hasRoom
set_option maxRecDepth 20000 in
theorem ggX6_single_X3_addSingle : GoodIn wsX6_single wsX3_addSingle := goodIn_r _ [18, 19, 14, 20, 21, 22, 12, 23, 24, 25, 26, 27, 28, 41, 42, 43, 44, 45] rfl (by decide +kernel)
set_option maxRecDepth 20000 in
theorem gX6_single_X3_addSingle : GoodIn wsX6_single (wsV RX6 80 RX3 yX3_addSingle wsX3_addSingle) := goodIn_app (goodIn_of _ (by decide +kernel)) ggX6_single_X3_addSingle
theorem dX6_single_0 : decode cX6_single 0 = .ok (.aload_n 0, 1) := by decide +kernel
theorem dX6_single_1 : decode cX6_single 1 = .ok (.getfield 10, 3) := by decide +kernel
theorem dX6_single_4 : decode cX6_single 4 = .ok (.iload_n 1, 1) := by decide +kernel
theorem dX6_single_5 : decode cX6_single 5 = .ok (.invokevirtual 68, 3) := by decide +kernel
theorem dX6_single_8 : decode cX6_single 8 = .ok (.ifCond .eq 24, 3) := by decide +kernel
theorem dX6_single_11 : decode cX6_single 11 = .ok (.aload_n 0, 1) := by decide +kernel
theorem dX6_single_12 : decode cX6_single 12 = .ok (.getfield 19, 3) := by decide +kernel
theorem dX6_single_15 : decode cX6_single 15 = .ok (.invokevirtual 76, 3) := by decide +kernel
theorem dX6_single_18 : decode cX6_single 18 = .ok (.ifCond .eq 14, 3) := by decide +kernel
theorem dX6_single_21 : decode cX6_single 21 = .ok (.aload_n 0, 1) := by decide +kernel
theorem dX6_single_22 : decode cX6_single 22 = .ok (.getfield 19, 3) := by decide +kernel
theorem dX6_single_25 : decode cX6_single 25 = .ok (.iload_n 1, 1) := by decide +kernel
theorem dX6_single_26 : decode cX6_single 26 = .ok (.invokevirtual 80, 3) := by decide +kernel
theorem dX6_single_29 : decode cX6_single 29 = .ok (.goto 4, 3) := by decide +kernel
theorem dX6_single_32 : decode cX6_single 32 = .ok (.iconst (-1), 1) := by decide +kernel
theorem dX6_single_33 : decode cX6_single 33 = .ok (.ireturn, 1) := by decide +kernel
set_option maxRecDepth 20000 in
theorem ggX6_row_X3_has : GoodIn wsX6_row wsX3_has := goodIn_r _ [6, 7, 23, 24, 25, 26, 27] rfl (by decide +kernel)
set_option maxRecDepth 20000 in
theorem gX6_row_X3_has : GoodIn wsX6_row (wsV RX6 84 RX3 yX3_has wsX3_has) := goodIn_app (goodIn_of _ (by decide +kernel)) ggX6_row_X3_has
set_option maxRecDepth 20000 in
theorem ggX6_row_X3_hasRoom : GoodIn wsX6_row wsX3_hasRoom := goodIn_r _ [11, 7, 23, 24, 25, 26, 27] rfl (by decide +kernel)
set_option maxRecDepth 20000 in
theorem gX6_row_X3_hasRoom : GoodIn wsX6_row (wsV RX6 76 RX3 yX3_hasRoom wsX3_hasRoom) := goodIn_app (goodIn_of _ (by decide +kernel)) ggX6_row_X3_hasRoom
set_option maxRecDepth 20000 in
theorem ggX6_row_X3_addRow : GoodIn wsX6_row wsX3_addRow := goodIn_r _ [15, 16, 7, 23, 24, 25, 26, 27] rfl (by decide +kernel)
set_option maxRecDepth 20000 in
theorem gX6_row_X3_addRow : GoodIn wsX6_row (wsV RX6 85 RX3 yX3_addRow wsX3_addRow) := goodIn_app (goodIn_of _ (by decide +kernel)) ggX6_row_X3_addRow
theorem dX6_row_0 : decode cX6_row 0 = .ok (.aload_n 0, 1) := by decide +kernel
theorem dX6_row_1 : decode cX6_row 1 = .ok (.getfield 19, 3) := by decide +kernel
theorem dX6_row_4 : decode cX6_row 4 = .ok (.iload_n 1, 1) := by decide +kernel
theorem dX6_row_5 : decode cX6_row 5 = .ok (.invokevirtual 84, 3) := by decide +kernel
theorem dX6_row_8 : decode cX6_row 8 = .ok (.ifCond .eq 36, 3) := by decide +kernel
theorem dX6_row_11 : decode cX6_row 11 = .ok (.aload_n 0, 1) := by decide +kernel
theorem dX6_row_12 : decode cX6_row 12 = .ok (.getfield 19, 3) := by decide +kernel
theorem dX6_row_15 : decode cX6_row 15 = .ok (.iload_n 2, 1) := by decide +kernel
theorem dX6_row_16 : decode cX6_row 16 = .ok (.invokevirtual 84, 3) := by decide +kernel
theorem dX6_row_19 : decode cX6_row 19 = .ok (.ifCond .eq 25, 3) := by decide +kernel
theorem dX6_row_22 : decode cX6_row 22 = .ok (.aload_n 0, 1) := by decide +kernel
theorem dX6_row_23 : decode cX6_row 23 = .ok (.getfield 19, 3) := by decide +kernel
theorem dX6_row_26 : decode cX6_row 26 = .ok (.invokevirtual 76, 3) := by decide +kernel
theorem dX6_row_29 : decode cX6_row 29 = .ok (.ifCond .eq 15, 3) := by decide +kernel
theorem dX6_row_32 : decode cX6_row 32 = .ok (.aload_n 0, 1) := by decide +kernel
theorem dX6_row_33 : decode cX6_row 33 = .ok (.getfield 19, 3) := by decide +kernel
theorem dX6_row_36 : decode cX6_row 36 = .ok (.iload_n 1, 1) := by decide +kernel
theorem dX6_row_37 : decode cX6_row 37 = .ok (.iload_n 2, 1) := by decide +kernel
theorem dX6_row_38 : decode cX6_row 38 = .ok (.invokevirtual 85, 3) := by decide +kernel
theorem dX6_row_41 : decode cX6_row 41 = .ok (.goto 4, 3) := by decide +kernel
theorem dX6_row_44 : decode cX6_row 44 = .ok (.iconst (-1), 1) := by decide +kernel
theorem dX6_row_45 : decode cX6_row 45 = .ok (.ireturn, 1) := by decide +kernel
set_option maxRecDepth 20000 in
theorem ggX6_side_X3_has : GoodIn wsX6_side wsX3_has := goodIn_r _ [6, 7, 23, 24, 25, 26, 27] rfl (by decide +kernel)
set_option maxRecDepth 20000 in
theorem gX6_side_X3_has : GoodIn wsX6_side (wsV RX6 84 RX3 yX3_has wsX3_has) := goodIn_app (goodIn_of _ (by decide +kernel)) ggX6_side_X3_has
set_option maxRecDepth 20000 in
theorem ggX6_side_X3_hasRoom : GoodIn wsX6_side wsX3_hasRoom := goodIn_r _ [11, 7, 23, 24, 25, 26, 27] rfl (by decide +kernel)
set_option maxRecDepth 20000 in
theorem gX6_side_X3_hasRoom : GoodIn wsX6_side (wsV RX6 76 RX3 yX3_hasRoom wsX3_hasRoom) := goodIn_app (goodIn_of _ (by decide +kernel)) ggX6_side_X3_hasRoom
set_option maxRecDepth 20000 in
theorem ggX6_side_X3_addSide : GoodIn wsX6_side wsX3_addSide := goodIn_r _ [15, 16, 7, 23, 24, 25, 26, 27] rfl (by decide +kernel)
set_option maxRecDepth 20000 in
theorem gX6_side_X3_addSide : GoodIn wsX6_side (wsV RX6 89 RX3 yX3_addSide wsX3_addSide) := goodIn_app (goodIn_of _ (by decide +kernel)) ggX6_side_X3_addSide
theorem dX6_side_0 : decode cX6_side 0 = .ok (.aload_n 0, 1) := by decide +kernel
theorem dX6_side_1 : decode cX6_side 1 = .ok (.getfield 19, 3) := by decide +kernel
theorem dX6_side_4 : decode cX6_side 4 = .ok (.iload_n 1, 1) := by decide +kernel
theorem dX6_side_5 : decode cX6_side 5 = .ok (.invokevirtual 84, 3) := by decide +kernel
theorem dX6_side_8 : decode cX6_side 8 = .ok (.ifCond .eq 36, 3) := by decide +kernel
theorem dX6_side_11 : decode cX6_side 11 = .ok (.aload_n 0, 1) := by decide +kernel
theorem dX6_side_12 : decode cX6_side 12 = .ok (.getfield 19, 3) := by decide +kernel
theorem dX6_side_15 : decode cX6_side 15 = .ok (.iload_n 2, 1) := by decide +kernel
theorem dX6_side_16 : decode cX6_side 16 = .ok (.invokevirtual 84, 3) := by decide +kernel
theorem dX6_side_19 : decode cX6_side 19 = .ok (.ifCond .eq 25, 3) := by decide +kernel
theorem dX6_side_22 : decode cX6_side 22 = .ok (.aload_n 0, 1) := by decide +kernel
theorem dX6_side_23 : decode cX6_side 23 = .ok (.getfield 19, 3) := by decide +kernel
theorem dX6_side_26 : decode cX6_side 26 = .ok (.invokevirtual 76, 3) := by decide +kernel
theorem dX6_side_29 : decode cX6_side 29 = .ok (.ifCond .eq 15, 3) := by decide +kernel
theorem dX6_side_32 : decode cX6_side 32 = .ok (.aload_n 0, 1) := by decide +kernel
theorem dX6_side_33 : decode cX6_side 33 = .ok (.getfield 19, 3) := by decide +kernel
theorem dX6_side_36 : decode cX6_side 36 = .ok (.iload_n 1, 1) := by decide +kernel
theorem dX6_side_37 : decode cX6_side 37 = .ok (.iload_n 2, 1) := by decide +kernel
theorem dX6_side_38 : decode cX6_side 38 = .ok (.invokevirtual 89, 3) := by decide +kernel
theorem dX6_side_41 : decode cX6_side 41 = .ok (.goto 4, 3) := by decide +kernel
theorem dX6_side_44 : decode cX6_side 44 = .ok (.iconst (-1), 1) := by decide +kernel
theorem dX6_side_45 : decode cX6_side 45 = .ok (.ireturn, 1) := by decide +kernel
set_option maxRecDepth 20000 in
theorem ggX6_some_X4_hasSet : GoodIn wsX6_some wsX4_hasSet := goodIn_r _ [7, 8, 44, 45, 46, 47, 48, 49] rfl (by decide +kernel)
set_option maxRecDepth 20000 in
theorem gX6_some_X4_hasSet : GoodIn wsX6_some (wsV RX6 92 RX4 yX4_hasSet wsX4_hasSet) := goodIn_app (goodIn_of _ (by decide +kernel)) ggX6_some_X4_hasSet
set_option maxRecDepth 20000 in
theorem ggX6_some_X3_hasRoom : GoodIn wsX6_some wsX3_hasRoom := goodIn_r _ [13, 14, 50, 51, 52, 53, 54] rfl (by decide +kernel)
set_option maxRecDepth 20000 in
theorem gX6_some_X3_hasRoom : GoodIn wsX6_some (wsV RX6 76 RX3 yX3_hasRoom wsX3_hasRoom) := goodIn_app (goodIn_of _ (by decide +kernel)) ggX6_some_X3_hasRoom
set_option maxRecDepth 20000 in
theorem ggX6_some_X3_addSome : GoodIn wsX6_some wsX3_addSome := goodIn_r _ [18, 19, 14, 20, 21, 22, 12, 23, 24, 25, 26, 27, 28, 29, 30, 31, 32, 33, 34, 35, 36, 37, 50, 51, 52, 53, 54] rfl (by decide +kernel)
set_option maxRecDepth 20000 in
theorem gX6_some_X3_addSome : GoodIn wsX6_some (wsV RX6 95 RX3 yX3_addSome wsX3_addSome) := goodIn_app (goodIn_of _ (by decide +kernel)) ggX6_some_X3_addSome
theorem dX6_some_0 : decode cX6_some 0 = .ok (.aload_n 0, 1) := by decide +kernel
theorem dX6_some_1 : decode cX6_some 1 = .ok (.getfield 10, 3) := by decide +kernel
theorem dX6_some_4 : decode cX6_some 4 = .ok (.iload_n 1, 1) := by decide +kernel
theorem dX6_some_5 : decode cX6_some 5 = .ok (.invokevirtual 92, 3) := by decide +kernel
theorem dX6_some_8 : decode cX6_some 8 = .ok (.ifCond .eq 32, 3) := by decide +kernel
theorem dX6_some_11 : decode cX6_some 11 = .ok (.lload_n 2, 1) := by decide +kernel
theorem dX6_some_12 : decode cX6_some 12 = .ok (.lconst 0, 1) := by decide +kernel
theorem dX6_some_13 : decode cX6_some 13 = .ok (.lcmp, 1) := by decide +kernel
theorem dX6_some_14 : decode cX6_some 14 = .ok (.ifCond .lt 26, 3) := by decide +kernel
theorem dX6_some_17 : decode cX6_some 17 = .ok (.iload 4, 2) := by decide +kernel
theorem dX6_some_19 : decode cX6_some 19 = .ok (.ifCond .lt 21, 3) := by decide +kernel
theorem dX6_some_22 : decode cX6_some 22 = .ok (.iload 4, 2) := by decide +kernel
theorem dX6_some_24 : decode cX6_some 24 = .ok (.iconst 3, 1) := by decide +kernel
theorem dX6_some_25 : decode cX6_some 25 = .ok (.if_icmp .gt 15, 3) := by decide +kernel
theorem dX6_some_28 : decode cX6_some 28 = .ok (.iload 5, 2) := by decide +kernel
theorem dX6_some_30 : decode cX6_some 30 = .ok (.ifCond .lt 10, 3) := by decide +kernel
theorem dX6_some_33 : decode cX6_some 33 = .ok (.iload 5, 2) := by decide +kernel
theorem dX6_some_35 : decode cX6_some 35 = .ok (.bipush 100, 2) := by decide +kernel
theorem dX6_some_37 : decode cX6_some 37 = .ok (.if_icmp .le 5, 3) := by decide +kernel
theorem dX6_some_40 : decode cX6_some 40 = .ok (.iconst (-1), 1) := by decide +kernel
theorem dX6_some_41 : decode cX6_some 41 = .ok (.ireturn, 1) := by decide +kernel
theorem dX6_some_42 : decode cX6_some 42 = .ok (.aload_n 0, 1) := by decide +kernel
theorem dX6_some_43 : decode cX6_some 43 = .ok (.getfield 19, 3) := by decide +kernel
theorem dX6_some_46 : decode cX6_some 46 = .ok (.invokevirtual 76, 3) := by decide +kernel
theorem dX6_some_49 : decode cX6_some 49 = .ok (.ifCond .eq 19, 3) := by decide +kernel
theorem dX6_some_52 : decode cX6_some 52 = .ok (.aload_n 0, 1) := by decide +kernel
theorem dX6_some_53 : decode cX6_some 53 = .ok (.getfield 19, 3) := by decide +kernel
theorem dX6_some_56 : decode cX6_some 56 = .ok (.iload_n 1, 1) := by decide +kernel
theorem dX6_some_57 : decode cX6_some 57 = .ok (.lload_n 2, 1) := by decide +kernel
theorem dX6_some_58 : decode cX6_some 58 = .ok (.iload 4, 2) := by decide +kernel
theorem dX6_some_60 : decode cX6_some 60 = .ok (.iload 5, 2) := by decide +kernel
theorem dX6_some_62 : decode cX6_some 62 = .ok (.invokevirtual 95, 3) := by decide +kernel
theorem dX6_some_65 : decode cX6_some 65 = .ok (.goto 4, 3) := by decide +kernel
theorem dX6_some_68 : decode cX6_some 68 = .ok (.iconst (-1), 1) := by decide +kernel
theorem dX6_some_69 : decode cX6_some 69 = .ok (.ireturn, 1) := by decide +kernel
set_option maxRecDepth 20000 in
theorem ggX6_dual_X3_has : GoodIn wsX6_dual wsX3_has := goodIn_r _ [6, 7, 36, 37, 38, 39, 40] rfl (by decide +kernel)
set_option maxRecDepth 20000 in
theorem gX6_dual_X3_has : GoodIn wsX6_dual (wsV RX6 84 RX3 yX3_has wsX3_has) := goodIn_app (goodIn_of _ (by decide +kernel)) ggX6_dual_X3_has
set_option maxRecDepth 20000 in
theorem ggX6_dual_X3_hasRoom : GoodIn wsX6_dual wsX3_hasRoom := goodIn_r _ [11, 7, 36, 37, 38, 39, 40] rfl (by decide +kernel)
set_option maxRecDepth 20000 in
theorem gX6_dual_X3_hasRoom : GoodIn wsX6_dual (wsV RX6 76 RX3 yX3_hasRoom wsX3_hasRoom) := goodIn_app (goodIn_of _ (by decide +kernel)) ggX6_dual_X3_hasRoom
set_option maxRecDepth 20000 in
theorem ggX6_dual_X3_addDual : GoodIn wsX6_dual wsX3_addDual := goodIn_r _ [15, 16, 7, 17, 18, 19, 5, 20, 21, 22, 23, 24, 25, 26, 27, 28, 29, 36, 37, 38, 39, 40] rfl (by decide +kernel)
set_option maxRecDepth 20000 in
theorem gX6_dual_X3_addDual : GoodIn wsX6_dual (wsV RX6 99 RX3 yX3_addDual wsX3_addDual) := goodIn_app (goodIn_of _ (by decide +kernel)) ggX6_dual_X3_addDual
theorem dX6_dual_0 : decode cX6_dual 0 = .ok (.aload_n 0, 1) := by decide +kernel
theorem dX6_dual_1 : decode cX6_dual 1 = .ok (.getfield 19, 3) := by decide +kernel
theorem dX6_dual_4 : decode cX6_dual 4 = .ok (.iload_n 1, 1) := by decide +kernel
theorem dX6_dual_5 : decode cX6_dual 5 = .ok (.invokevirtual 84, 3) := by decide +kernel
theorem dX6_dual_8 : decode cX6_dual 8 = .ok (.ifCond .eq 24, 3) := by decide +kernel
theorem dX6_dual_11 : decode cX6_dual 11 = .ok (.aload_n 0, 1) := by decide +kernel
theorem dX6_dual_12 : decode cX6_dual 12 = .ok (.getfield 19, 3) := by decide +kernel
theorem dX6_dual_15 : decode cX6_dual 15 = .ok (.invokevirtual 76, 3) := by decide +kernel
theorem dX6_dual_18 : decode cX6_dual 18 = .ok (.ifCond .eq 14, 3) := by decide +kernel
theorem dX6_dual_21 : decode cX6_dual 21 = .ok (.aload_n 0, 1) := by decide +kernel
theorem dX6_dual_22 : decode cX6_dual 22 = .ok (.getfield 19, 3) := by decide +kernel
theorem dX6_dual_25 : decode cX6_dual 25 = .ok (.iload_n 1, 1) := by decide +kernel
theorem dX6_dual_26 : decode cX6_dual 26 = .ok (.invokevirtual 99, 3) := by decide +kernel
theorem dX6_dual_29 : decode cX6_dual 29 = .ok (.goto 4, 3) := by decide +kernel
theorem dX6_dual_32 : decode cX6_dual 32 = .ok (.iconst (-1), 1) := by decide +kernel
theorem dX6_dual_33 : decode cX6_dual 33 = .ok (.ireturn, 1) := by decide +kernel
set_option maxRecDepth 20000 in
theorem ggX6_system_X3_has : GoodIn wsX6_system wsX3_has := goodIn_r _ [7, 8, 21, 22, 23, 24, 25] rfl (by decide +kernel)
set_option maxRecDepth 20000 in
theorem gX6_system_X3_has : GoodIn wsX6_system (wsV RX6 84 RX3 yX3_has wsX3_has) := goodIn_app (goodIn_of _ (by decide +kernel)) ggX6_system_X3_has
set_option maxRecDepth 20000 in
theorem ggX6_system_X1_forget : GoodIn wsX6_system wsX1_forget := goodIn_r _ [13, 14, 26, 27, 28, 29, 30, 31, 32] rfl (by decide +kernel)
set_option maxRecDepth 20000 in
theorem gX6_system_X1_forget : GoodIn wsX6_system (wsV RX6 65 RX1 yX1_forget wsX1_forget) := goodIn_app (goodIn_of _ (by decide +kernel)) ggX6_system_X1_forget
theorem dX6_system_0 : decode cX6_system 0 = .ok (.aload_n 0, 1) := by decide +kernel
theorem dX6_system_1 : decode cX6_system 1 = .ok (.getfield 19, 3) := by decide +kernel
theorem dX6_system_4 : decode cX6_system 4 = .ok (.iload_n 1, 1) := by decide +kernel
theorem dX6_system_5 : decode cX6_system 5 = .ok (.invokevirtual 84, 3) := by decide +kernel
theorem dX6_system_8 : decode cX6_system 8 = .ok (.ifCond .ne 5, 3) := by decide +kernel
theorem dX6_system_11 : decode cX6_system 11 = .ok (.iconst 0, 1) := by decide +kernel
theorem dX6_system_12 : decode cX6_system 12 = .ok (.ireturn, 1) := by decide +kernel
theorem dX6_system_13 : decode cX6_system 13 = .ok (.aload_n 0, 1) := by decide +kernel
theorem dX6_system_14 : decode cX6_system 14 = .ok (.getfield 19, 3) := by decide +kernel
theorem dX6_system_17 : decode cX6_system 17 = .ok (.getfield 102, 3) := by decide +kernel
theorem dX6_system_20 : decode cX6_system 20 = .ok (.iload_n 1, 1) := by decide +kernel
theorem dX6_system_21 : decode cX6_system 21 = .ok (.if_icmp .eq 18, 3) := by decide +kernel
theorem dX6_system_24 : decode cX6_system 24 = .ok (.aload_n 0, 1) := by decide +kernel
theorem dX6_system_25 : decode cX6_system 25 = .ok (.getfield 19, 3) := by decide +kernel
theorem dX6_system_28 : decode cX6_system 28 = .ok (.iload_n 1, 1) := by decide +kernel
theorem dX6_system_29 : decode cX6_system 29 = .ok (.putfield 102, 3) := by decide +kernel
theorem dX6_system_32 : decode cX6_system 32 = .ok (.aload_n 0, 1) := by decide +kernel
theorem dX6_system_33 : decode cX6_system 33 = .ok (.getfield 35, 3) := by decide +kernel
theorem dX6_system_36 : decode cX6_system 36 = .ok (.invokevirtual 65, 3) := by decide +kernel
theorem dX6_system_39 : decode cX6_system 39 = .ok (.iconst 1, 1) := by decide +kernel
theorem dX6_system_40 : decode cX6_system 40 = .ok (.ireturn, 1) := by decide +kernel
set_option maxRecDepth 20000 in
theorem ggX6_says_X3_has : GoodIn wsX6_says wsX3_has := goodIn_r _ [7, 8, 26, 27, 28, 29, 30] rfl (by decide +kernel)
set_option maxRecDepth 20000 in
theorem gX6_says_X3_has : GoodIn wsX6_says (wsV RX6 84 RX3 yX3_has wsX3_has) := goodIn_app (goodIn_of _ (by decide +kernel)) ggX6_says_X3_has
set_option maxRecDepth 20000 in
theorem ggX6_says_X4_hasSet : GoodIn wsX6_says wsX4_hasSet := goodIn_r _ [13, 14, 31, 32, 33, 34, 35, 36] rfl (by decide +kernel)
set_option maxRecDepth 20000 in
theorem gX6_says_X4_hasSet : GoodIn wsX6_says (wsV RX6 92 RX4 yX4_hasSet wsX4_hasSet) := goodIn_app (goodIn_of _ (by decide +kernel)) ggX6_says_X4_hasSet
set_option maxRecDepth 20000 in
theorem ggX6_says_X3_isGood : GoodIn wsX6_says wsX3_isGood := goodIn_r _ [18, 19, 26, 27, 28, 29, 30] rfl (by decide +kernel)
set_option maxRecDepth 20000 in
theorem gX6_says_X3_isGood : GoodIn wsX6_says (wsV RX6 106 RX3 yX3_isGood wsX3_isGood) := goodIn_app (goodIn_of _ (by decide +kernel)) ggX6_says_X3_isGood
theorem dX6_says_0 : decode cX6_says 0 = .ok (.aload_n 0, 1) := by decide +kernel
theorem dX6_says_1 : decode cX6_says 1 = .ok (.getfield 19, 3) := by decide +kernel
theorem dX6_says_4 : decode cX6_says 4 = .ok (.iload_n 1, 1) := by decide +kernel
theorem dX6_says_5 : decode cX6_says 5 = .ok (.invokevirtual 84, 3) := by decide +kernel
theorem dX6_says_8 : decode cX6_says 8 = .ok (.ifCond .eq 14, 3) := by decide +kernel
theorem dX6_says_11 : decode cX6_says 11 = .ok (.aload_n 0, 1) := by decide +kernel
theorem dX6_says_12 : decode cX6_says 12 = .ok (.getfield 10, 3) := by decide +kernel
theorem dX6_says_15 : decode cX6_says 15 = .ok (.iload_n 2, 1) := by decide +kernel
theorem dX6_says_16 : decode cX6_says 16 = .ok (.invokevirtual 92, 3) := by decide +kernel
theorem dX6_says_19 : decode cX6_says 19 = .ok (.ifCond .ne 5, 3) := by decide +kernel
theorem dX6_says_22 : decode cX6_says 22 = .ok (.iconst (-1), 1) := by decide +kernel
theorem dX6_says_23 : decode cX6_says 23 = .ok (.ireturn, 1) := by decide +kernel
theorem dX6_says_24 : decode cX6_says 24 = .ok (.aload_n 0, 1) := by decide +kernel
theorem dX6_says_25 : decode cX6_says 25 = .ok (.getfield 19, 3) := by decide +kernel
theorem dX6_says_28 : decode cX6_says 28 = .ok (.iload_n 1, 1) := by decide +kernel
theorem dX6_says_29 : decode cX6_says 29 = .ok (.iload_n 2, 1) := by decide +kernel
theorem dX6_says_30 : decode cX6_says 30 = .ok (.invokevirtual 106, 3) := by decide +kernel
theorem dX6_says_33 : decode cX6_says 33 = .ok (.ifCond .eq 7, 3) := by decide +kernel
theorem dX6_says_36 : decode cX6_says 36 = .ok (.iconst 1, 1) := by decide +kernel
theorem dX6_says_37 : decode cX6_says 37 = .ok (.goto 4, 3) := by decide +kernel
theorem dX6_says_40 : decode cX6_says 40 = .ok (.iconst 0, 1) := by decide +kernel
theorem dX6_says_41 : decode cX6_says 41 = .ok (.ireturn, 1) := by decide +kernel
set_option maxRecDepth 20000 in
theorem ggX6_differ_X3_has : GoodIn wsX6_differ wsX3_has := goodIn_r _ [6, 7, 24, 25, 26, 27, 28] rfl (by decide +kernel)
set_option maxRecDepth 20000 in
theorem gX6_differ_X3_has : GoodIn wsX6_differ (wsV RX6 84 RX3 yX3_has wsX3_has) := goodIn_app (goodIn_of _ (by decide +kernel)) ggX6_differ_X3_has
set_option maxRecDepth 20000 in
theorem ggX6_differ_X3_firstUnlike : GoodIn wsX6_differ wsX3_firstUnlike := goodIn_r _ [11, 12, 13, 14, 15, 5, 16, 17, 24, 25, 26, 27, 28] rfl (by decide +kernel)
set_option maxRecDepth 20000 in
theorem gX6_differ_X3_firstUnlike : GoodIn wsX6_differ (wsV RX6 110 RX3 yX3_firstUnlike wsX3_firstUnlike) := goodIn_app (goodIn_of _ (by decide +kernel)) ggX6_differ_X3_firstUnlike
theorem dX6_differ_0 : decode cX6_differ 0 = .ok (.aload_n 0, 1) := by decide +kernel
theorem dX6_differ_1 : decode cX6_differ 1 = .ok (.getfield 19, 3) := by decide +kernel
theorem dX6_differ_4 : decode cX6_differ 4 = .ok (.iload_n 1, 1) := by decide +kernel
theorem dX6_differ_5 : decode cX6_differ 5 = .ok (.invokevirtual 84, 3) := by decide +kernel
theorem dX6_differ_8 : decode cX6_differ 8 = .ok (.ifCond .eq 26, 3) := by decide +kernel
theorem dX6_differ_11 : decode cX6_differ 11 = .ok (.aload_n 0, 1) := by decide +kernel
theorem dX6_differ_12 : decode cX6_differ 12 = .ok (.getfield 19, 3) := by decide +kernel
theorem dX6_differ_15 : decode cX6_differ 15 = .ok (.iload_n 2, 1) := by decide +kernel
theorem dX6_differ_16 : decode cX6_differ 16 = .ok (.invokevirtual 84, 3) := by decide +kernel
theorem dX6_differ_19 : decode cX6_differ 19 = .ok (.ifCond .eq 15, 3) := by decide +kernel
theorem dX6_differ_22 : decode cX6_differ 22 = .ok (.aload_n 0, 1) := by decide +kernel
theorem dX6_differ_23 : decode cX6_differ 23 = .ok (.getfield 19, 3) := by decide +kernel
theorem dX6_differ_26 : decode cX6_differ 26 = .ok (.iload_n 1, 1) := by decide +kernel
theorem dX6_differ_27 : decode cX6_differ 27 = .ok (.iload_n 2, 1) := by decide +kernel
theorem dX6_differ_28 : decode cX6_differ 28 = .ok (.invokevirtual 110, 3) := by decide +kernel
theorem dX6_differ_31 : decode cX6_differ 31 = .ok (.goto 4, 3) := by decide +kernel
theorem dX6_differ_34 : decode cX6_differ 34 = .ok (.iconst (-1), 1) := by decide +kernel
theorem dX6_differ_35 : decode cX6_differ 35 = .ok (.ireturn, 1) := by decide +kernel
set_option maxRecDepth 20000 in
theorem ggX6_sets_X3_hasSystem : GoodIn wsX6_sets wsX3_hasSystem := goodIn_r _ [6, 7, 8, 9, 10, 5, 11, 12, 41, 42, 43, 44, 45] rfl (by decide +kernel)
set_option maxRecDepth 20000 in
theorem gX6_sets_X3_hasSystem : GoodIn wsX6_sets (wsV RX6 113 RX3 yX3_hasSystem wsX3_hasSystem) := goodIn_app (goodIn_of _ (by decide +kernel)) ggX6_sets_X3_hasSystem
set_option maxRecDepth 20000 in
theorem ggX6_sets_X3_countLeast : GoodIn wsX6_sets wsX3_countLeast := goodIn_r _ [16, 17, 18, 19, 20, 5, 21, 22, 23, 24, 25, 26, 27, 28, 29, 7, 30, 31, 32, 33, 34, 41, 42, 43, 44, 45] rfl (by decide +kernel)
set_option maxRecDepth 20000 in
theorem gX6_sets_X3_countLeast : GoodIn wsX6_sets (wsV RX6 116 RX3 yX3_countLeast wsX3_countLeast) := goodIn_app (goodIn_of _ (by decide +kernel)) ggX6_sets_X3_countLeast
theorem dX6_sets_0 : decode cX6_sets 0 = .ok (.iload_n 1, 1) := by decide +kernel
theorem dX6_sets_1 : decode cX6_sets 1 = .ok (.ifCond .lt 18, 3) := by decide +kernel
theorem dX6_sets_4 : decode cX6_sets 4 = .ok (.iload_n 1, 1) := by decide +kernel
theorem dX6_sets_5 : decode cX6_sets 5 = .ok (.iconst 1, 1) := by decide +kernel
theorem dX6_sets_6 : decode cX6_sets 6 = .ok (.if_icmp .gt 13, 3) := by decide +kernel
theorem dX6_sets_9 : decode cX6_sets 9 = .ok (.aload_n 0, 1) := by decide +kernel
theorem dX6_sets_10 : decode cX6_sets 10 = .ok (.getfield 19, 3) := by decide +kernel
theorem dX6_sets_13 : decode cX6_sets 13 = .ok (.invokevirtual 113, 3) := by decide +kernel
theorem dX6_sets_16 : decode cX6_sets 16 = .ok (.ifCond .ne 5, 3) := by decide +kernel
theorem dX6_sets_19 : decode cX6_sets 19 = .ok (.iconst (-1), 1) := by decide +kernel
theorem dX6_sets_20 : decode cX6_sets 20 = .ok (.ireturn, 1) := by decide +kernel
theorem dX6_sets_21 : decode cX6_sets 21 = .ok (.aload_n 0, 1) := by decide +kernel
theorem dX6_sets_22 : decode cX6_sets 22 = .ok (.getfield 19, 3) := by decide +kernel
theorem dX6_sets_25 : decode cX6_sets 25 = .ok (.iload_n 1, 1) := by decide +kernel
theorem dX6_sets_26 : decode cX6_sets 26 = .ok (.ifCond .ne 7, 3) := by decide +kernel
theorem dX6_sets_29 : decode cX6_sets 29 = .ok (.iconst 1, 1) := by decide +kernel
theorem dX6_sets_30 : decode cX6_sets 30 = .ok (.goto 4, 3) := by decide +kernel
theorem dX6_sets_33 : decode cX6_sets 33 = .ok (.iconst 0, 1) := by decide +kernel
theorem dX6_sets_34 : decode cX6_sets 34 = .ok (.invokevirtual 116, 3) := by decide +kernel
theorem dX6_sets_37 : decode cX6_sets 37 = .ok (.ireturn, 1) := by decide +kernel
set_option maxRecDepth 20000 in
theorem ggX6_set_X3_hasSystem : GoodIn wsX6_set wsX3_hasSystem := goodIn_r _ [6, 7, 8, 9, 10, 5, 11, 12, 41, 42, 43, 44, 45] rfl (by decide +kernel)
set_option maxRecDepth 20000 in
theorem gX6_set_X3_hasSystem : GoodIn wsX6_set (wsV RX6 113 RX3 yX3_hasSystem wsX3_hasSystem) := goodIn_app (goodIn_of _ (by decide +kernel)) ggX6_set_X3_hasSystem
set_option maxRecDepth 20000 in
theorem ggX6_set_X3_findLeast : GoodIn wsX6_set wsX3_findLeast := goodIn_r _ [16, 17, 18, 19, 20, 5, 21, 22, 23, 24, 25, 26, 27, 28, 29, 7, 30, 31, 32, 33, 34, 41, 42, 43, 44, 45] rfl (by decide +kernel)
set_option maxRecDepth 20000 in
theorem gX6_set_X3_findLeast : GoodIn wsX6_set (wsV RX6 120 RX3 yX3_findLeast wsX3_findLeast) := goodIn_app (goodIn_of _ (by decide +kernel)) ggX6_set_X3_findLeast
theorem dX6_set_0 : decode cX6_set 0 = .ok (.iload_n 1, 1) := by decide +kernel
theorem dX6_set_1 : decode cX6_set 1 = .ok (.ifCond .lt 22, 3) := by decide +kernel
theorem dX6_set_4 : decode cX6_set 4 = .ok (.iload_n 1, 1) := by decide +kernel
theorem dX6_set_5 : decode cX6_set 5 = .ok (.iconst 1, 1) := by decide +kernel
theorem dX6_set_6 : decode cX6_set 6 = .ok (.if_icmp .gt 17, 3) := by decide +kernel
theorem dX6_set_9 : decode cX6_set 9 = .ok (.iload_n 2, 1) := by decide +kernel
theorem dX6_set_10 : decode cX6_set 10 = .ok (.ifCond .lt 13, 3) := by decide +kernel
theorem dX6_set_13 : decode cX6_set 13 = .ok (.aload_n 0, 1) := by decide +kernel
theorem dX6_set_14 : decode cX6_set 14 = .ok (.getfield 19, 3) := by decide +kernel
theorem dX6_set_17 : decode cX6_set 17 = .ok (.invokevirtual 113, 3) := by decide +kernel
theorem dX6_set_20 : decode cX6_set 20 = .ok (.ifCond .ne 5, 3) := by decide +kernel
theorem dX6_set_23 : decode cX6_set 23 = .ok (.iconst (-1), 1) := by decide +kernel
theorem dX6_set_24 : decode cX6_set 24 = .ok (.ireturn, 1) := by decide +kernel
theorem dX6_set_25 : decode cX6_set 25 = .ok (.aload_n 0, 1) := by decide +kernel
theorem dX6_set_26 : decode cX6_set 26 = .ok (.getfield 19, 3) := by decide +kernel
theorem dX6_set_29 : decode cX6_set 29 = .ok (.iload_n 1, 1) := by decide +kernel
theorem dX6_set_30 : decode cX6_set 30 = .ok (.ifCond .ne 7, 3) := by decide +kernel
theorem dX6_set_33 : decode cX6_set 33 = .ok (.iconst 1, 1) := by decide +kernel
theorem dX6_set_34 : decode cX6_set 34 = .ok (.goto 4, 3) := by decide +kernel
theorem dX6_set_37 : decode cX6_set 37 = .ok (.iconst 0, 1) := by decide +kernel
theorem dX6_set_38 : decode cX6_set 38 = .ok (.iload_n 2, 1) := by decide +kernel
theorem dX6_set_39 : decode cX6_set 39 = .ok (.invokevirtual 120, 3) := by decide +kernel
theorem dX6_set_42 : decode cX6_set 42 = .ok (.ireturn, 1) := by decide +kernel
set_option maxRecDepth 20000 in
theorem ggX6_see_X4_has : GoodIn wsX6_see wsX4_has := goodIn_r _ [6, 7, 20, 21, 22, 23, 24, 25] rfl (by decide +kernel)
set_option maxRecDepth 20000 in
theorem gX6_see_X4_has : GoodIn wsX6_see (wsV RX6 68 RX4 yX4_has wsX4_has) := goodIn_app (goodIn_of _ (by decide +kernel)) ggX6_see_X4_has
set_option maxRecDepth 20000 in
theorem ggX6_see_X4_note : GoodIn wsX6_see wsX4_note := goodIn_r _ [11, 12, 13, 20, 21, 22, 23, 24, 25] rfl (by decide +kernel)
set_option maxRecDepth 20000 in
theorem gX6_see_X4_note : GoodIn wsX6_see (wsV RX6 124 RX4 yX4_note wsX4_note) := goodIn_app (goodIn_of _ (by decide +kernel)) ggX6_see_X4_note
theorem dX6_see_0 : decode cX6_see 0 = .ok (.aload_n 0, 1) := by decide +kernel
theorem dX6_see_1 : decode cX6_see 1 = .ok (.getfield 10, 3) := by decide +kernel
theorem dX6_see_4 : decode cX6_see 4 = .ok (.iload_n 1, 1) := by decide +kernel
theorem dX6_see_5 : decode cX6_see 5 = .ok (.invokevirtual 68, 3) := by decide +kernel
theorem dX6_see_8 : decode cX6_see 8 = .ok (.ifCond .eq 13, 3) := by decide +kernel
theorem dX6_see_11 : decode cX6_see 11 = .ok (.iload_n 2, 1) := by decide +kernel
theorem dX6_see_12 : decode cX6_see 12 = .ok (.iconst (-1), 1) := by decide +kernel
theorem dX6_see_13 : decode cX6_see 13 = .ok (.if_icmp .lt 8, 3) := by decide +kernel
theorem dX6_see_16 : decode cX6_see 16 = .ok (.iload_n 2, 1) := by decide +kernel
theorem dX6_see_17 : decode cX6_see 17 = .ok (.iconst 1, 1) := by decide +kernel
theorem dX6_see_18 : decode cX6_see 18 = .ok (.if_icmp .le 5, 3) := by decide +kernel
theorem dX6_see_21 : decode cX6_see 21 = .ok (.iconst 0, 1) := by decide +kernel
theorem dX6_see_22 : decode cX6_see 22 = .ok (.ireturn, 1) := by decide +kernel
theorem dX6_see_23 : decode cX6_see 23 = .ok (.aload_n 0, 1) := by decide +kernel
theorem dX6_see_24 : decode cX6_see 24 = .ok (.getfield 10, 3) := by decide +kernel
theorem dX6_see_27 : decode cX6_see 27 = .ok (.iload_n 1, 1) := by decide +kernel
theorem dX6_see_28 : decode cX6_see 28 = .ok (.iload_n 2, 1) := by decide +kernel
theorem dX6_see_29 : decode cX6_see 29 = .ok (.invokevirtual 124, 3) := by decide +kernel
theorem dX6_see_32 : decode cX6_see 32 = .ok (.iconst 1, 1) := by decide +kernel
theorem dX6_see_33 : decode cX6_see 33 = .ok (.ireturn, 1) := by decide +kernel
set_option maxRecDepth 20000 in
theorem ggX6_partOf_X4_has : GoodIn wsX6_partOf wsX4_has := goodIn_r _ [6, 7, 20, 21, 22, 23, 24, 25] rfl (by decide +kernel)
set_option maxRecDepth 20000 in
theorem gX6_partOf_X4_has : GoodIn wsX6_partOf (wsV RX6 68 RX4 yX4_has wsX4_has) := goodIn_app (goodIn_of _ (by decide +kernel)) ggX6_partOf_X4_has
set_option maxRecDepth 20000 in
theorem ggX6_partOf_X4_noted : GoodIn wsX6_partOf wsX4_noted := goodIn_r _ [11, 12, 13, 20, 21, 22, 23, 24, 25] rfl (by decide +kernel)
set_option maxRecDepth 20000 in
theorem gX6_partOf_X4_noted : GoodIn wsX6_partOf (wsV RX6 138 RX4 yX4_noted wsX4_noted) := goodIn_app (goodIn_of _ (by decide +kernel)) ggX6_partOf_X4_noted
theorem dX6_partOf_0 : decode cX6_partOf 0 = .ok (.aload_n 0, 1) := by decide +kernel
theorem dX6_partOf_1 : decode cX6_partOf 1 = .ok (.getfield 10, 3) := by decide +kernel
theorem dX6_partOf_4 : decode cX6_partOf 4 = .ok (.iload_n 1, 1) := by decide +kernel
theorem dX6_partOf_5 : decode cX6_partOf 5 = .ok (.invokevirtual 68, 3) := by decide +kernel
theorem dX6_partOf_8 : decode cX6_partOf 8 = .ok (.ifCond .ne 6, 3) := by decide +kernel
theorem dX6_partOf_11 : decode cX6_partOf 11 = .ok (.bipush (-2), 2) := by decide +kernel
theorem dX6_partOf_13 : decode cX6_partOf 13 = .ok (.ireturn, 1) := by decide +kernel
theorem dX6_partOf_14 : decode cX6_partOf 14 = .ok (.iload_n 2, 1) := by decide +kernel
theorem dX6_partOf_15 : decode cX6_partOf 15 = .ok (.tableswitch 68 0 3 #[29, 39, 49, 59], 29) := by decide +kernel
theorem dX6_partOf_44 : decode cX6_partOf 44 = .ok (.aload_n 0, 1) := by decide +kernel
theorem dX6_partOf_45 : decode cX6_partOf 45 = .ok (.getfield 10, 3) := by decide +kernel
theorem dX6_partOf_48 : decode cX6_partOf 48 = .ok (.getfield 128, 3) := by decide +kernel
theorem dX6_partOf_51 : decode cX6_partOf 51 = .ok (.iload_n 1, 1) := by decide +kernel
theorem dX6_partOf_52 : decode cX6_partOf 52 = .ok (.iaload, 1) := by decide +kernel
theorem dX6_partOf_53 : decode cX6_partOf 53 = .ok (.ireturn, 1) := by decide +kernel
theorem dX6_partOf_54 : decode cX6_partOf 54 = .ok (.aload_n 0, 1) := by decide +kernel
theorem dX6_partOf_55 : decode cX6_partOf 55 = .ok (.getfield 10, 3) := by decide +kernel
theorem dX6_partOf_58 : decode cX6_partOf 58 = .ok (.getfield 132, 3) := by decide +kernel
theorem dX6_partOf_61 : decode cX6_partOf 61 = .ok (.iload_n 1, 1) := by decide +kernel
theorem dX6_partOf_62 : decode cX6_partOf 62 = .ok (.iaload, 1) := by decide +kernel
theorem dX6_partOf_63 : decode cX6_partOf 63 = .ok (.ireturn, 1) := by decide +kernel
theorem dX6_partOf_64 : decode cX6_partOf 64 = .ok (.aload_n 0, 1) := by decide +kernel
theorem dX6_partOf_65 : decode cX6_partOf 65 = .ok (.getfield 10, 3) := by decide +kernel
theorem dX6_partOf_68 : decode cX6_partOf 68 = .ok (.getfield 135, 3) := by decide +kernel
theorem dX6_partOf_71 : decode cX6_partOf 71 = .ok (.iload_n 1, 1) := by decide +kernel
theorem dX6_partOf_72 : decode cX6_partOf 72 = .ok (.iaload, 1) := by decide +kernel
theorem dX6_partOf_73 : decode cX6_partOf 73 = .ok (.ireturn, 1) := by decide +kernel
theorem dX6_partOf_74 : decode cX6_partOf 74 = .ok (.aload_n 0, 1) := by decide +kernel
theorem dX6_partOf_75 : decode cX6_partOf 75 = .ok (.getfield 10, 3) := by decide +kernel
theorem dX6_partOf_78 : decode cX6_partOf 78 = .ok (.iload_n 1, 1) := by decide +kernel
theorem dX6_partOf_79 : decode cX6_partOf 79 = .ok (.invokevirtual 138, 3) := by decide +kernel
theorem dX6_partOf_82 : decode cX6_partOf 82 = .ok (.ireturn, 1) := by decide +kernel
theorem dX6_partOf_83 : decode cX6_partOf 83 = .ok (.bipush (-2), 2) := by decide +kernel
theorem dX6_partOf_85 : decode cX6_partOf 85 = .ok (.ireturn, 1) := by decide +kernel
set_option maxRecDepth 20000 in
theorem ggX6_sure_X3_hasSystem : GoodIn wsX6_sure wsX3_hasSystem := goodIn_r _ [7, 8, 9, 10, 11, 6, 12, 13, 46, 47, 48, 49, 50] rfl (by decide +kernel)
set_option maxRecDepth 20000 in
theorem gX6_sure_X3_hasSystem : GoodIn wsX6_sure (wsV RX6 113 RX3 yX3_hasSystem wsX3_hasSystem) := goodIn_app (goodIn_of _ (by decide +kernel)) ggX6_sure_X3_hasSystem
set_option maxRecDepth 20000 in
theorem ggX6_sure_X4_unseen : GoodIn wsX6_sure wsX4_unseen := goodIn_r _ [18, 19, 20, 40, 41, 42, 43, 44, 45] rfl (by decide +kernel)
set_option maxRecDepth 20000 in
theorem gX6_sure_X4_unseen : GoodIn wsX6_sure (wsV RX6 144 RX4 yX4_unseen wsX4_unseen) := goodIn_app (goodIn_of _ (by decide +kernel)) ggX6_sure_X4_unseen
set_option maxRecDepth 20000 in
theorem ggX6_sure_X3_verdict : GoodIn wsX6_sure wsX3_verdict := goodIn_r _ [24, 25, 26, 27, 6, 28, 8, 29, 30, 31, 32, 33, 46, 47, 48, 49, 50] rfl (by decide +kernel)
set_option maxRecDepth 20000 in
theorem gX6_sure_X3_verdict : GoodIn wsX6_sure (wsV RX6 148 RX3 yX3_verdict wsX3_verdict) := goodIn_app (goodIn_of _ (by decide +kernel)) ggX6_sure_X3_verdict
theorem dX6_sure_0 : decode cX6_sure 0 = .ok (.aload_n 0, 1) := by decide +kernel
theorem dX6_sure_1 : decode cX6_sure 1 = .ok (.getfield 19, 3) := by decide +kernel
theorem dX6_sure_4 : decode cX6_sure 4 = .ok (.invokevirtual 113, 3) := by decide +kernel
theorem dX6_sure_7 : decode cX6_sure 7 = .ok (.ifCond .eq 27, 3) := by decide +kernel
theorem dX6_sure_10 : decode cX6_sure 10 = .ok (.aload_n 0, 1) := by decide +kernel
theorem dX6_sure_11 : decode cX6_sure 11 = .ok (.getfield 19, 3) := by decide +kernel
theorem dX6_sure_14 : decode cX6_sure 14 = .ok (.aload_n 0, 1) := by decide +kernel
theorem dX6_sure_15 : decode cX6_sure 15 = .ok (.getfield 10, 3) := by decide +kernel
theorem dX6_sure_18 : decode cX6_sure 18 = .ok (.getfield 141, 3) := by decide +kernel
theorem dX6_sure_21 : decode cX6_sure 21 = .ok (.aload_n 0, 1) := by decide +kernel
theorem dX6_sure_22 : decode cX6_sure 22 = .ok (.getfield 10, 3) := by decide +kernel
theorem dX6_sure_25 : decode cX6_sure 25 = .ok (.invokevirtual 144, 3) := by decide +kernel
theorem dX6_sure_28 : decode cX6_sure 28 = .ok (.invokevirtual 148, 3) := by decide +kernel
theorem dX6_sure_31 : decode cX6_sure 31 = .ok (.goto 5, 3) := by decide +kernel
theorem dX6_sure_34 : decode cX6_sure 34 = .ok (.bipush (-2), 2) := by decide +kernel
theorem dX6_sure_36 : decode cX6_sure 36 = .ok (.ireturn, 1) := by decide +kernel
set_option maxRecDepth 20000 in
theorem ggX6_told_X4_left : GoodIn wsX6_told wsX4_left := goodIn_r _ [10, 11, 12, 13, 184, 185, 186, 187, 188, 189] rfl (by decide +kernel)
set_option maxRecDepth 20000 in
theorem gX6_told_X4_left : GoodIn wsX6_told (wsV RX6 154 RX4 yX4_left wsX4_left) := goodIn_app (goodIn_of _ (by decide +kernel)) ggX6_told_X4_left
set_option maxRecDepth 20000 in
theorem ggX6_told_X3_hasSystem : GoodIn wsX6_told wsX3_hasSystem := goodIn_r _ [18, 19, 20, 21, 22, 17, 23, 24, 190, 191, 192, 193, 194] rfl (by decide +kernel)
set_option maxRecDepth 20000 in
theorem gX6_told_X3_hasSystem : GoodIn wsX6_told (wsV RX6 113 RX3 yX3_hasSystem wsX3_hasSystem) := goodIn_app (goodIn_of _ (by decide +kernel)) ggX6_told_X3_hasSystem
set_option maxRecDepth 20000 in
theorem ggX6_told_X0_goodWeights : GoodIn wsX6_told wsX0_goodWeights := goodIn_r _ [29, 30, 31, 32, 33, 34, 9, 35, 36, 37, 38, 39, 40, 17, 41, 19, 42, 43, 44, 45, 46, 47, 48, 49, 50, 11, 51, 7, 8, 10, 12, 13, 195, 196, 197, 184, 185, 186, 187, 188, 189, 190, 191, 192, 193, 194] rfl (by decide +kernel)
set_option maxRecDepth 20000 in
theorem gX6_told_X0_goodWeights : GoodIn wsX6_told (wsV RX6 160 RX0 yX0_goodWeights wsX0_goodWeights) := goodIn_app (goodIn_of _ (by decide +kernel)) ggX6_told_X0_goodWeights
set_option maxRecDepth 20000 in
theorem ggX6_told_X1_bestMean : GoodIn wsX6_told wsX1_bestMean := goodIn_r _ [56, 57, 58, 59, 60, 55, 61, 62, 63, 64, 65, 66, 67, 68, 69, 70, 71, 17, 72, 73, 39, 40, 41, 19, 42, 43, 44, 45, 46, 74, 75, 76, 77, 78, 79, 80, 81, 82, 83, 84, 85, 86, 87, 88, 89, 90, 91, 92, 93, 198, 199, 200, 201, 202, 203, 204, 184, 185, 186, 187, 188, 189, 190, 191, 192, 193, 194] rfl (by decide +kernel)
set_option maxRecDepth 20000 in
theorem gX6_told_X1_bestMean : GoodIn wsX6_told (wsV RX6 164 RX1 yX1_bestMean wsX1_bestMean) := goodIn_app (goodIn_of _ (by decide +kernel)) ggX6_told_X1_bestMean
set_option maxRecDepth 20000 in
theorem ggX6_told_X1_next : GoodIn wsX6_told wsX1_next := goodIn_r _ [97, 64, 68, 98, 69, 70, 71, 17, 72, 73, 39, 40, 41, 19, 42, 43, 44, 45, 46, 99, 100, 101, 102, 103, 104, 105, 58, 59, 60, 55, 61, 62, 63, 57, 65, 66, 67, 74, 75, 76, 77, 78, 79, 80, 81, 82, 83, 84, 85, 86, 87, 88, 89, 90, 91, 92, 93, 106, 7, 8, 9, 10, 11, 12, 13, 107, 108, 109, 110, 111, 112, 113, 114, 115, 116, 117, 118, 119, 120, 121, 122, 123, 124, 125, 126, 198, 199, 200, 201, 202, 203, 204, 184, 185, 186, 187, 188, 189, 190, 191, 192, 193, 194, 205, 206] rfl (by decide +kernel)
set_option maxRecDepth 20000 in
theorem gX6_told_X1_next : GoodIn wsX6_told (wsV RX6 167 RX1 yX1_next wsX1_next) := goodIn_app (goodIn_of _ (by decide +kernel)) ggX6_told_X1_next
set_option maxRecDepth 20000 in
theorem ggX6_told_X1_worstPrice : GoodIn wsX6_told wsX1_worstPrice := goodIn_r _ [130, 67, 58, 59, 60, 55, 61, 62, 63, 64, 57, 65, 66, 68, 69, 70, 71, 17, 72, 73, 39, 40, 41, 19, 42, 43, 44, 45, 46, 74, 75, 76, 77, 78, 79, 80, 81, 82, 83, 84, 85, 86, 87, 88, 89, 90, 91, 92, 93, 198, 199, 200, 201, 202, 203, 204, 184, 185, 186, 187, 188, 189, 190, 191, 192, 193, 194] rfl (by decide +kernel)
set_option maxRecDepth 20000 in
theorem gX6_told_X1_worstPrice : GoodIn wsX6_told (wsV RX6 171 RX1 yX1_worstPrice wsX1_worstPrice) := goodIn_app (goodIn_of _ (by decide +kernel)) ggX6_told_X1_worstPrice
set_option maxRecDepth 20000 in
theorem ggX6_told_X0_bound : GoodIn wsX6_told wsX0_bound := goodIn_r _ [134, 135, 136, 137, 28, 138, 30, 31, 139, 32, 33, 34, 9, 35, 36, 37, 140, 141, 142, 17, 143, 144, 73, 39, 40, 41, 19, 42, 43, 44, 45, 46, 145, 146, 147, 148, 149, 150, 125, 151, 152, 153, 154, 155, 11, 156, 157, 158, 159, 160, 47, 48, 49, 50, 51, 7, 8, 10, 12, 13, 195, 196, 197, 184, 185, 186, 187, 188, 189, 190, 191, 192, 193, 194] rfl (by decide +kernel)
set_option maxRecDepth 20000 in
theorem gX6_told_X0_bound : GoodIn wsX6_told (wsV RX6 174 RX0 yX0_bound wsX0_bound) := goodIn_app (goodIn_of _ (by decide +kernel)) ggX6_told_X0_bound
set_option maxRecDepth 20000 in
theorem ggX6_told_X1_orderMean : GoodIn wsX6_told wsX1_orderMean := goodIn_r _ [164, 64, 165, 166, 167, 55, 168, 169, 95, 96, 97, 68, 98, 69, 70, 71, 17, 72, 73, 39, 40, 41, 19, 42, 43, 44, 45, 46, 99, 100, 101, 102, 103, 104, 105, 58, 59, 60, 61, 62, 63, 57, 65, 66, 67, 74, 75, 76, 77, 78, 79, 80, 81, 82, 83, 84, 85, 86, 87, 88, 89, 90, 91, 92, 93, 106, 7, 8, 9, 10, 11, 12, 13, 107, 108, 109, 110, 111, 112, 113, 114, 115, 116, 117, 118, 119, 120, 121, 122, 123, 124, 125, 126, 198, 199, 200, 201, 202, 203, 204, 184, 185, 186, 187, 188, 189, 190, 191, 192, 193, 194, 205, 206] rfl (by decide +kernel)
set_option maxRecDepth 20000 in
theorem gX6_told_X1_orderMean : GoodIn wsX6_told (wsV RX6 177 RX1 yX1_orderMean wsX1_orderMean) := goodIn_app (goodIn_of _ (by decide +kernel)) ggX6_told_X1_orderMean
set_option maxRecDepth 20000 in
theorem ggX6_told_X1_orderWorst : GoodIn wsX6_told wsX1_orderWorst := goodIn_r _ [173, 64, 174, 175, 176, 55, 177, 123, 124, 125, 126, 169, 95, 96, 97, 68, 98, 69, 70, 71, 17, 72, 73, 39, 40, 41, 19, 42, 43, 44, 45, 46, 99, 100, 101, 102, 103, 104, 105, 58, 59, 60, 61, 62, 63, 57, 65, 66, 67, 74, 75, 76, 77, 78, 79, 80, 81, 82, 83, 84, 85, 86, 87, 88, 89, 90, 91, 92, 93, 106, 7, 8, 9, 10, 11, 12, 13, 107, 108, 109, 110, 111, 112, 113, 114, 115, 116, 117, 118, 119, 120, 121, 122, 198, 199, 200, 201, 202, 203, 204, 184, 185, 186, 187, 188, 189, 190, 191, 192, 193, 194, 205, 206] rfl (by decide +kernel)
set_option maxRecDepth 20000 in
theorem gX6_told_X1_orderWorst : GoodIn wsX6_told (wsV RX6 180 RX1 yX1_orderWorst wsX1_orderWorst) := goodIn_app (goodIn_of _ (by decide +kernel)) ggX6_told_X1_orderWorst
theorem dX6_told_0 : decode cX6_told 0 = .ok (.aload_n 0, 1) := by decide +kernel
theorem dX6_told_1 : decode cX6_told 1 = .ok (.getfield 10, 3) := by decide +kernel
theorem dX6_told_4 : decode cX6_told 4 = .ok (.getfield 151, 3) := by decide +kernel
theorem dX6_told_7 : decode cX6_told 7 = .ok (.istore_n 2, 1) := by decide +kernel
theorem dX6_told_8 : decode cX6_told 8 = .ok (.aload_n 0, 1) := by decide +kernel
theorem dX6_told_9 : decode cX6_told 9 = .ok (.getfield 10, 3) := by decide +kernel
theorem dX6_told_12 : decode cX6_told 12 = .ok (.getfield 141, 3) := by decide +kernel
theorem dX6_told_15 : decode cX6_told 15 = .ok (.istore_n 3, 1) := by decide +kernel
theorem dX6_told_16 : decode cX6_told 16 = .ok (.iload_n 1, 1) := by decide +kernel
theorem dX6_told_17 : decode cX6_told 17 = .ok (.ifCond .ne 13, 3) := by decide +kernel
theorem dX6_told_20 : decode cX6_told 20 = .ok (.aload_n 0, 1) := by decide +kernel
theorem dX6_told_21 : decode cX6_told 21 = .ok (.getfield 10, 3) := by decide +kernel
theorem dX6_told_24 : decode cX6_told 24 = .ok (.iload_n 2, 1) := by decide +kernel
theorem dX6_told_25 : decode cX6_told 25 = .ok (.iload_n 3, 1) := by decide +kernel
theorem dX6_told_26 : decode cX6_told 26 = .ok (.invokevirtual 154, 3) := by decide +kernel
theorem dX6_told_29 : decode cX6_told 29 = .ok (.lreturn, 1) := by decide +kernel
theorem dX6_told_30 : decode cX6_told 30 = .ok (.aload_n 0, 1) := by decide +kernel
theorem dX6_told_31 : decode cX6_told 31 = .ok (.getfield 19, 3) := by decide +kernel
theorem dX6_told_34 : decode cX6_told 34 = .ok (.invokevirtual 113, 3) := by decide +kernel
theorem dX6_told_37 : decode cX6_told 37 = .ok (.ifCond .ne 7, 3) := by decide +kernel
theorem dX6_told_40 : decode cX6_told 40 = .ok (.ldc2_w 158, 3) := by decide +kernel
theorem dX6_told_43 : decode cX6_told 43 = .ok (.lreturn, 1) := by decide +kernel
theorem dX6_told_44 : decode cX6_told 44 = .ok (.iload_n 1, 1) := by decide +kernel
theorem dX6_told_45 : decode cX6_told 45 = .ok (.tableswitch 125 1 8 #[47, 55, 65, 77, 88, 100, 108, 116], 47) := by decide +kernel
theorem dX6_told_92 : decode cX6_told 92 = .ok (.aload_n 0, 1) := by decide +kernel
theorem dX6_told_93 : decode cX6_told 93 = .ok (.getfield 44, 3) := by decide +kernel
theorem dX6_told_96 : decode cX6_told 96 = .ok (.invokevirtual 160, 3) := by decide +kernel
theorem dX6_told_99 : decode cX6_told 99 = .ok (.lreturn, 1) := by decide +kernel
theorem dX6_told_100 : decode cX6_told 100 = .ok (.aload_n 0, 1) := by decide +kernel
theorem dX6_told_101 : decode cX6_told 101 = .ok (.getfield 35, 3) := by decide +kernel
theorem dX6_told_104 : decode cX6_told 104 = .ok (.iload_n 2, 1) := by decide +kernel
theorem dX6_told_105 : decode cX6_told 105 = .ok (.iload_n 3, 1) := by decide +kernel
theorem dX6_told_106 : decode cX6_told 106 = .ok (.invokevirtual 164, 3) := by decide +kernel
theorem dX6_told_109 : decode cX6_told 109 = .ok (.lreturn, 1) := by decide +kernel
theorem dX6_told_110 : decode cX6_told 110 = .ok (.aload_n 0, 1) := by decide +kernel
theorem dX6_told_111 : decode cX6_told 111 = .ok (.getfield 35, 3) := by decide +kernel
theorem dX6_told_114 : decode cX6_told 114 = .ok (.iconst 0, 1) := by decide +kernel
theorem dX6_told_115 : decode cX6_told 115 = .ok (.iload_n 2, 1) := by decide +kernel
theorem dX6_told_116 : decode cX6_told 116 = .ok (.iload_n 3, 1) := by decide +kernel
theorem dX6_told_117 : decode cX6_told 117 = .ok (.invokevirtual 167, 3) := by decide +kernel
theorem dX6_told_120 : decode cX6_told 120 = .ok (.i2l, 1) := by decide +kernel
theorem dX6_told_121 : decode cX6_told 121 = .ok (.lreturn, 1) := by decide +kernel
theorem dX6_told_122 : decode cX6_told 122 = .ok (.aload_n 0, 1) := by decide +kernel
theorem dX6_told_123 : decode cX6_told 123 = .ok (.getfield 35, 3) := by decide +kernel
theorem dX6_told_126 : decode cX6_told 126 = .ok (.iload_n 2, 1) := by decide +kernel
theorem dX6_told_127 : decode cX6_told 127 = .ok (.iload_n 3, 1) := by decide +kernel
theorem dX6_told_128 : decode cX6_told 128 = .ok (.invokevirtual 171, 3) := by decide +kernel
theorem dX6_told_131 : decode cX6_told 131 = .ok (.i2l, 1) := by decide +kernel
theorem dX6_told_132 : decode cX6_told 132 = .ok (.lreturn, 1) := by decide +kernel
theorem dX6_told_133 : decode cX6_told 133 = .ok (.aload_n 0, 1) := by decide +kernel
theorem dX6_told_134 : decode cX6_told 134 = .ok (.getfield 35, 3) := by decide +kernel
theorem dX6_told_137 : decode cX6_told 137 = .ok (.iconst 1, 1) := by decide +kernel
theorem dX6_told_138 : decode cX6_told 138 = .ok (.iload_n 2, 1) := by decide +kernel
theorem dX6_told_139 : decode cX6_told 139 = .ok (.iload_n 3, 1) := by decide +kernel
theorem dX6_told_140 : decode cX6_told 140 = .ok (.invokevirtual 167, 3) := by decide +kernel
theorem dX6_told_143 : decode cX6_told 143 = .ok (.i2l, 1) := by decide +kernel
theorem dX6_told_144 : decode cX6_told 144 = .ok (.lreturn, 1) := by decide +kernel
theorem dX6_told_145 : decode cX6_told 145 = .ok (.aload_n 0, 1) := by decide +kernel
theorem dX6_told_146 : decode cX6_told 146 = .ok (.getfield 44, 3) := by decide +kernel
theorem dX6_told_149 : decode cX6_told 149 = .ok (.invokevirtual 174, 3) := by decide +kernel
theorem dX6_told_152 : decode cX6_told 152 = .ok (.lreturn, 1) := by decide +kernel
theorem dX6_told_153 : decode cX6_told 153 = .ok (.aload_n 0, 1) := by decide +kernel
theorem dX6_told_154 : decode cX6_told 154 = .ok (.getfield 35, 3) := by decide +kernel
theorem dX6_told_157 : decode cX6_told 157 = .ok (.invokevirtual 177, 3) := by decide +kernel
theorem dX6_told_160 : decode cX6_told 160 = .ok (.lreturn, 1) := by decide +kernel
theorem dX6_told_161 : decode cX6_told 161 = .ok (.aload_n 0, 1) := by decide +kernel
theorem dX6_told_162 : decode cX6_told 162 = .ok (.getfield 35, 3) := by decide +kernel
theorem dX6_told_165 : decode cX6_told 165 = .ok (.invokevirtual 180, 3) := by decide +kernel
theorem dX6_told_168 : decode cX6_told 168 = .ok (.i2l, 1) := by decide +kernel
theorem dX6_told_169 : decode cX6_told 169 = .ok (.lreturn, 1) := by decide +kernel
theorem dX6_told_170 : decode cX6_told 170 = .ok (.ldc2_w 158, 3) := by decide +kernel
theorem dX6_told_173 : decode cX6_told 173 = .ok (.lreturn, 1) := by decide +kernel
set_option maxRecDepth 20000 in
theorem ggX6_of_X4_has : GoodIn wsX6_of wsX4_has := goodIn_r _ [10, 11, 107, 108, 109, 110, 111, 112] rfl (by decide +kernel)
set_option maxRecDepth 20000 in
theorem gX6_of_X4_has : GoodIn wsX6_of (wsV RX6 68 RX4 yX4_has wsX4_has) := goodIn_app (goodIn_of _ (by decide +kernel)) ggX6_of_X4_has
set_option maxRecDepth 20000 in
theorem ggX6_of_X4_noted : GoodIn wsX6_of wsX4_noted := goodIn_r _ [15, 16, 17, 107, 108, 109, 110, 111, 112] rfl (by decide +kernel)
set_option maxRecDepth 20000 in
theorem gX6_of_X4_noted : GoodIn wsX6_of (wsV RX6 138 RX4 yX4_noted wsX4_noted) := goodIn_app (goodIn_of _ (by decide +kernel)) ggX6_of_X4_noted
set_option maxRecDepth 20000 in
theorem ggX6_of_X3_hasSystem : GoodIn wsX6_of wsX3_hasSystem := goodIn_r _ [22, 23, 24, 25, 26, 21, 27, 28, 113, 114, 115, 116, 117] rfl (by decide +kernel)
set_option maxRecDepth 20000 in
theorem gX6_of_X3_hasSystem : GoodIn wsX6_of (wsV RX6 113 RX3 yX3_hasSystem wsX3_hasSystem) := goodIn_app (goodIn_of _ (by decide +kernel)) ggX6_of_X3_hasSystem
set_option maxRecDepth 20000 in
theorem ggX6_of_X1_gain : GoodIn wsX6_of wsX1_gain := goodIn_r _ [33, 34, 35, 36, 37, 38, 39, 32, 40, 41, 42, 43, 44, 45, 46, 47, 48, 21, 49, 50, 51, 52, 53, 23, 54, 55, 56, 57, 58, 59, 60, 61, 62, 63, 64, 65, 66, 67, 68, 69, 70, 71, 72, 73, 74, 75, 76, 77, 78, 118, 119, 120, 121, 122, 123, 124, 107, 108, 109, 110, 111, 112, 113, 114, 115, 116, 117] rfl (by decide +kernel)
set_option maxRecDepth 20000 in
theorem gX6_of_X1_gain : GoodIn wsX6_of (wsV RX6 183 RX1 yX1_gain wsX1_gain) := goodIn_app (goodIn_of _ (by decide +kernel)) ggX6_of_X1_gain
set_option maxRecDepth 20000 in
theorem ggX6_of_X0_matters : GoodIn wsX6_of wsX0_matters := goodIn_r _ [83, 84, 85, 86, 87, 88, 9, 89, 16, 17, 90, 51, 52, 21, 53, 23, 54, 55, 56, 57, 58, 91, 92, 93, 94, 11, 95, 96, 97, 98, 99, 100, 125, 126, 127, 107, 108, 109, 110, 111, 112, 113, 114, 115, 116, 117] rfl (by decide +kernel)
set_option maxRecDepth 20000 in
theorem gX6_of_X0_matters : GoodIn wsX6_of (wsV RX6 187 RX0 yX0_matters wsX0_matters) := goodIn_app (goodIn_of _ (by decide +kernel)) ggX6_of_X0_matters
theorem dX6_of_0 : decode cX6_of 0 = .ok (.aload_n 0, 1) := by decide +kernel
theorem dX6_of_1 : decode cX6_of 1 = .ok (.getfield 10, 3) := by decide +kernel
theorem dX6_of_4 : decode cX6_of 4 = .ok (.iload_n 1, 1) := by decide +kernel
theorem dX6_of_5 : decode cX6_of 5 = .ok (.invokevirtual 68, 3) := by decide +kernel
theorem dX6_of_8 : decode cX6_of 8 = .ok (.ifCond .eq 25, 3) := by decide +kernel
theorem dX6_of_11 : decode cX6_of 11 = .ok (.aload_n 0, 1) := by decide +kernel
theorem dX6_of_12 : decode cX6_of 12 = .ok (.getfield 10, 3) := by decide +kernel
theorem dX6_of_15 : decode cX6_of 15 = .ok (.iload_n 1, 1) := by decide +kernel
theorem dX6_of_16 : decode cX6_of 16 = .ok (.invokevirtual 138, 3) := by decide +kernel
theorem dX6_of_19 : decode cX6_of 19 = .ok (.iconst (-1), 1) := by decide +kernel
theorem dX6_of_20 : decode cX6_of 20 = .ok (.if_icmp .ne 13, 3) := by decide +kernel
theorem dX6_of_23 : decode cX6_of 23 = .ok (.aload_n 0, 1) := by decide +kernel
theorem dX6_of_24 : decode cX6_of 24 = .ok (.getfield 19, 3) := by decide +kernel
theorem dX6_of_27 : decode cX6_of 27 = .ok (.invokevirtual 113, 3) := by decide +kernel
theorem dX6_of_30 : decode cX6_of 30 = .ok (.ifCond .ne 7, 3) := by decide +kernel
theorem dX6_of_33 : decode cX6_of 33 = .ok (.ldc2_w 158, 3) := by decide +kernel
theorem dX6_of_36 : decode cX6_of 36 = .ok (.lreturn, 1) := by decide +kernel
theorem dX6_of_37 : decode cX6_of 37 = .ok (.iload_n 2, 1) := by decide +kernel
theorem dX6_of_38 : decode cX6_of 38 = .ok (.lookupswitch 44 #[(0, 26), (1, 35)], 26) := by decide +kernel
theorem dX6_of_64 : decode cX6_of 64 = .ok (.aload_n 0, 1) := by decide +kernel
theorem dX6_of_65 : decode cX6_of 65 = .ok (.getfield 35, 3) := by decide +kernel
theorem dX6_of_68 : decode cX6_of 68 = .ok (.iload_n 1, 1) := by decide +kernel
theorem dX6_of_69 : decode cX6_of 69 = .ok (.invokevirtual 183, 3) := by decide +kernel
theorem dX6_of_72 : decode cX6_of 72 = .ok (.lreturn, 1) := by decide +kernel
theorem dX6_of_73 : decode cX6_of 73 = .ok (.aload_n 0, 1) := by decide +kernel
theorem dX6_of_74 : decode cX6_of 74 = .ok (.getfield 44, 3) := by decide +kernel
theorem dX6_of_77 : decode cX6_of 77 = .ok (.iload_n 1, 1) := by decide +kernel
theorem dX6_of_78 : decode cX6_of 78 = .ok (.invokevirtual 187, 3) := by decide +kernel
theorem dX6_of_81 : decode cX6_of 81 = .ok (.lreturn, 1) := by decide +kernel
theorem dX6_of_82 : decode cX6_of 82 = .ok (.ldc2_w 158, 3) := by decide +kernel
theorem dX6_of_85 : decode cX6_of 85 = .ok (.lreturn, 1) := by decide +kernel
set_option maxRecDepth 20000 in
theorem ggX6_order_X4_has : GoodIn wsX6_order wsX4_has := goodIn_r _ [7, 8, 28, 29, 30, 31, 32, 33] rfl (by decide +kernel)
set_option maxRecDepth 20000 in
theorem gX6_order_X4_has : GoodIn wsX6_order (wsV RX6 68 RX4 yX4_has wsX4_has) := goodIn_app (goodIn_of _ (by decide +kernel)) ggX6_order_X4_has
set_option maxRecDepth 20000 in
theorem ggX6_order_X2_holds : GoodIn wsX6_order wsX2_holds := goodIn_r _ [13, 14, 15, 26, 27] rfl (by decide +kernel)
set_option maxRecDepth 20000 in
theorem gX6_order_X2_holds : GoodIn wsX6_order (wsV RX6 190 RX2 yX2_holds wsX2_holds) := goodIn_app (goodIn_of _ (by decide +kernel)) ggX6_order_X2_holds
set_option maxRecDepth 20000 in
theorem ggX6_order_X2_append : GoodIn wsX6_order wsX2_append := goodIn_r _ [19, 14, 15, 26, 27] rfl (by decide +kernel)
set_option maxRecDepth 20000 in
theorem gX6_order_X2_append : GoodIn wsX6_order (wsV RX6 193 RX2 yX2_append wsX2_append) := goodIn_app (goodIn_of _ (by decide +kernel)) ggX6_order_X2_append
theorem dX6_order_0 : decode cX6_order 0 = .ok (.aload_n 0, 1) := by decide +kernel
theorem dX6_order_1 : decode cX6_order 1 = .ok (.getfield 10, 3) := by decide +kernel
theorem dX6_order_4 : decode cX6_order 4 = .ok (.iload_n 1, 1) := by decide +kernel
theorem dX6_order_5 : decode cX6_order 5 = .ok (.invokevirtual 68, 3) := by decide +kernel
theorem dX6_order_8 : decode cX6_order 8 = .ok (.ifCond .eq 14, 3) := by decide +kernel
theorem dX6_order_11 : decode cX6_order 11 = .ok (.aload_n 0, 1) := by decide +kernel
theorem dX6_order_12 : decode cX6_order 12 = .ok (.getfield 26, 3) := by decide +kernel
theorem dX6_order_15 : decode cX6_order 15 = .ok (.iload_n 1, 1) := by decide +kernel
theorem dX6_order_16 : decode cX6_order 16 = .ok (.invokevirtual 190, 3) := by decide +kernel
theorem dX6_order_19 : decode cX6_order 19 = .ok (.ifCond .eq 5, 3) := by decide +kernel
theorem dX6_order_22 : decode cX6_order 22 = .ok (.iconst (-1), 1) := by decide +kernel
theorem dX6_order_23 : decode cX6_order 23 = .ok (.ireturn, 1) := by decide +kernel
theorem dX6_order_24 : decode cX6_order 24 = .ok (.aload_n 0, 1) := by decide +kernel
theorem dX6_order_25 : decode cX6_order 25 = .ok (.getfield 26, 3) := by decide +kernel
theorem dX6_order_28 : decode cX6_order 28 = .ok (.iload_n 1, 1) := by decide +kernel
theorem dX6_order_29 : decode cX6_order 29 = .ok (.invokevirtual 193, 3) := by decide +kernel
theorem dX6_order_32 : decode cX6_order 32 = .ok (.aload_n 0, 1) := by decide +kernel
theorem dX6_order_33 : decode cX6_order 33 = .ok (.getfield 26, 3) := by decide +kernel
theorem dX6_order_36 : decode cX6_order 36 = .ok (.getfield 196, 3) := by decide +kernel
theorem dX6_order_39 : decode cX6_order 39 = .ok (.ireturn, 1) := by decide +kernel
set_option maxRecDepth 20000 in
theorem ggX6_ratios_X2_clear : GoodIn wsX6_ratios wsX2_clear := goodIn_r _ [7, 8, 23, 24] rfl (by decide +kernel)
set_option maxRecDepth 20000 in
theorem gX6_ratios_X2_clear : GoodIn wsX6_ratios (wsV RX6 62 RX2 yX2_clear wsX2_clear) := goodIn_app (goodIn_of _ (by decide +kernel)) ggX6_ratios_X2_clear
set_option maxRecDepth 20000 in
theorem ggX6_ratios_X2_fillByRatios : GoodIn wsX6_ratios wsX2_fillByRatios := goodIn_r _ [12, 13, 8, 14, 15, 6, 16, 25, 26, 27, 28, 29, 30, 23, 24] rfl (by decide +kernel)
set_option maxRecDepth 20000 in
theorem gX6_ratios_X2_fillByRatios : GoodIn wsX6_ratios (wsV RX6 199 RX2 yX2_fillByRatios wsX2_fillByRatios) := goodIn_app (goodIn_of _ (by decide +kernel)) ggX6_ratios_X2_fillByRatios
theorem dX6_ratios_0 : decode cX6_ratios 0 = .ok (.aload_n 0, 1) := by decide +kernel
theorem dX6_ratios_1 : decode cX6_ratios 1 = .ok (.getfield 26, 3) := by decide +kernel
theorem dX6_ratios_4 : decode cX6_ratios 4 = .ok (.invokevirtual 62, 3) := by decide +kernel
theorem dX6_ratios_7 : decode cX6_ratios 7 = .ok (.iload_n 2, 1) := by decide +kernel
theorem dX6_ratios_8 : decode cX6_ratios 8 = .ok (.ifCond .ne 15, 3) := by decide +kernel
theorem dX6_ratios_11 : decode cX6_ratios 11 = .ok (.aload_n 0, 1) := by decide +kernel
theorem dX6_ratios_12 : decode cX6_ratios 12 = .ok (.getfield 26, 3) := by decide +kernel
theorem dX6_ratios_15 : decode cX6_ratios 15 = .ok (.aload_n 0, 1) := by decide +kernel
theorem dX6_ratios_16 : decode cX6_ratios 16 = .ok (.getfield 10, 3) := by decide +kernel
theorem dX6_ratios_19 : decode cX6_ratios 19 = .ok (.iload_n 1, 1) := by decide +kernel
theorem dX6_ratios_20 : decode cX6_ratios 20 = .ok (.invokevirtual 199, 3) := by decide +kernel
theorem dX6_ratios_23 : decode cX6_ratios 23 = .ok (.aload_n 0, 1) := by decide +kernel
theorem dX6_ratios_24 : decode cX6_ratios 24 = .ok (.getfield 26, 3) := by decide +kernel
theorem dX6_ratios_27 : decode cX6_ratios 27 = .ok (.getfield 196, 3) := by decide +kernel
theorem dX6_ratios_30 : decode cX6_ratios 30 = .ok (.ireturn, 1) := by decide +kernel
theorem dX6_ordered_0 : decode cX6_ordered 0 = .ok (.iload_n 1, 1) := by decide +kernel
theorem dX6_ordered_1 : decode cX6_ordered 1 = .ok (.ifCond .lt 26, 3) := by decide +kernel
theorem dX6_ordered_4 : decode cX6_ordered 4 = .ok (.iload_n 1, 1) := by decide +kernel
theorem dX6_ordered_5 : decode cX6_ordered 5 = .ok (.aload_n 0, 1) := by decide +kernel
theorem dX6_ordered_6 : decode cX6_ordered 6 = .ok (.getfield 26, 3) := by decide +kernel
theorem dX6_ordered_9 : decode cX6_ordered 9 = .ok (.getfield 196, 3) := by decide +kernel
theorem dX6_ordered_12 : decode cX6_ordered 12 = .ok (.if_icmp .ge 15, 3) := by decide +kernel
theorem dX6_ordered_15 : decode cX6_ordered 15 = .ok (.aload_n 0, 1) := by decide +kernel
theorem dX6_ordered_16 : decode cX6_ordered 16 = .ok (.getfield 26, 3) := by decide +kernel
theorem dX6_ordered_19 : decode cX6_ordered 19 = .ok (.getfield 203, 3) := by decide +kernel
theorem dX6_ordered_22 : decode cX6_ordered 22 = .ok (.iload_n 1, 1) := by decide +kernel
theorem dX6_ordered_23 : decode cX6_ordered 23 = .ok (.iaload, 1) := by decide +kernel
theorem dX6_ordered_24 : decode cX6_ordered 24 = .ok (.goto 4, 3) := by decide +kernel
theorem dX6_ordered_27 : decode cX6_ordered 27 = .ok (.iconst (-1), 1) := by decide +kernel
theorem dX6_ordered_28 : decode cX6_ordered 28 = .ok (.ireturn, 1) := by decide +kernel
set_option maxRecDepth 20000 in
theorem ggX6_run_X3_hasSystem : GoodIn wsX6_run wsX3_hasSystem := goodIn_r _ [7, 8, 9, 10, 11, 6, 12, 13, 130, 131, 132, 133, 134] rfl (by decide +kernel)
set_option maxRecDepth 20000 in
theorem gX6_run_X3_hasSystem : GoodIn wsX6_run (wsV RX6 113 RX3 yX3_hasSystem wsX3_hasSystem) := goodIn_app (goodIn_of _ (by decide +kernel)) ggX6_run_X3_hasSystem
set_option maxRecDepth 20000 in
theorem ggX6_run_X4_hasSet : GoodIn wsX6_run wsX4_hasSet := goodIn_r _ [18, 19, 135, 136, 137, 138, 139, 140] rfl (by decide +kernel)
set_option maxRecDepth 20000 in
theorem gX6_run_X4_hasSet : GoodIn wsX6_run (wsV RX6 92 RX4 yX4_hasSet wsX4_hasSet) := goodIn_app (goodIn_of _ (by decide +kernel)) ggX6_run_X4_hasSet
set_option maxRecDepth 20000 in
theorem ggX6_run_X4_fits : GoodIn wsX6_run wsX4_fits := goodIn_r _ [23, 24, 25, 135, 136, 137, 138, 139, 140] rfl (by decide +kernel)
set_option maxRecDepth 20000 in
theorem gX6_run_X4_fits : GoodIn wsX6_run (wsV RX6 206 RX4 yX4_fits wsX4_fits) := goodIn_app (goodIn_of _ (by decide +kernel)) ggX6_run_X4_fits
set_option maxRecDepth 20000 in
theorem ggX6_run_X6_follow : GoodIn wsX6_run wsX6_follow := goodIn_r _ [30, 31, 2, 32, 33, 34, 35, 36, 37, 38, 39, 40, 41, 42, 43, 6, 44, 45, 46, 47, 48, 8, 49, 50, 51, 52, 53, 54, 55, 56, 57, 58, 59, 60, 61, 62, 63, 64, 65, 66, 67, 68, 69, 70, 71, 72, 73, 74, 75, 76, 77, 78, 79, 80, 81, 82, 83, 84, 85, 86, 87, 88, 89, 90, 91, 92, 93, 17, 94, 19, 95, 96, 97, 98, 99, 100, 101, 102, 103, 104, 105, 106, 107, 108, 109, 110, 111, 112, 113, 114, 115, 116, 117, 118, 119, 120, 121, 122, 123, 124, 125, 126, 127, 128, 129, 141, 142, 135, 136, 137, 138, 139, 140, 143, 144, 145, 146, 147, 148, 149, 130, 131, 132, 133, 134, 150, 151] rfl (by decide +kernel)
set_option maxRecDepth 20000 in
theorem gX6_run_X6_follow : GoodIn wsX6_run (wsV RX6 209 RX6 yX6_follow wsX6_follow) := goodIn_app (goodIn_of _ (by decide +kernel)) ggX6_run_X6_follow
theorem dX6_run_0 : decode cX6_run 0 = .ok (.iload_n 1, 1) := by decide +kernel
theorem dX6_run_1 : decode cX6_run 1 = .ok (.ifCond .lt 18, 3) := by decide +kernel
theorem dX6_run_4 : decode cX6_run 4 = .ok (.iload_n 1, 1) := by decide +kernel
theorem dX6_run_5 : decode cX6_run 5 = .ok (.iconst 2, 1) := by decide +kernel
theorem dX6_run_6 : decode cX6_run 6 = .ok (.if_icmp .gt 13, 3) := by decide +kernel
theorem dX6_run_9 : decode cX6_run 9 = .ok (.aload_n 0, 1) := by decide +kernel
theorem dX6_run_10 : decode cX6_run 10 = .ok (.getfield 19, 3) := by decide +kernel
theorem dX6_run_13 : decode cX6_run 13 = .ok (.invokevirtual 113, 3) := by decide +kernel
theorem dX6_run_16 : decode cX6_run 16 = .ok (.ifCond .ne 5, 3) := by decide +kernel
theorem dX6_run_19 : decode cX6_run 19 = .ok (.iconst (-1), 1) := by decide +kernel
theorem dX6_run_20 : decode cX6_run 20 = .ok (.ireturn, 1) := by decide +kernel
theorem dX6_run_21 : decode cX6_run 21 = .ok (.aload_n 0, 1) := by decide +kernel
theorem dX6_run_22 : decode cX6_run 22 = .ok (.getfield 10, 3) := by decide +kernel
theorem dX6_run_25 : decode cX6_run 25 = .ok (.iload_n 2, 1) := by decide +kernel
theorem dX6_run_26 : decode cX6_run 26 = .ok (.invokevirtual 92, 3) := by decide +kernel
theorem dX6_run_29 : decode cX6_run 29 = .ok (.ifCond .eq 14, 3) := by decide +kernel
theorem dX6_run_32 : decode cX6_run 32 = .ok (.aload_n 0, 1) := by decide +kernel
theorem dX6_run_33 : decode cX6_run 33 = .ok (.getfield 10, 3) := by decide +kernel
theorem dX6_run_36 : decode cX6_run 36 = .ok (.iload_n 2, 1) := by decide +kernel
theorem dX6_run_37 : decode cX6_run 37 = .ok (.invokevirtual 206, 3) := by decide +kernel
theorem dX6_run_40 : decode cX6_run 40 = .ok (.ifCond .ne 5, 3) := by decide +kernel
theorem dX6_run_43 : decode cX6_run 43 = .ok (.iconst (-1), 1) := by decide +kernel
theorem dX6_run_44 : decode cX6_run 44 = .ok (.ireturn, 1) := by decide +kernel
theorem dX6_run_45 : decode cX6_run 45 = .ok (.aload_n 0, 1) := by decide +kernel
theorem dX6_run_46 : decode cX6_run 46 = .ok (.iload_n 1, 1) := by decide +kernel
theorem dX6_run_47 : decode cX6_run 47 = .ok (.iload_n 2, 1) := by decide +kernel
theorem dX6_run_48 : decode cX6_run 48 = .ok (.invokevirtual 209, 3) := by decide +kernel
theorem dX6_run_51 : decode cX6_run 51 = .ok (.ireturn, 1) := by decide +kernel
theorem dX6_looked_0 : decode cX6_looked 0 = .ok (.iload_n 1, 1) := by decide +kernel
theorem dX6_looked_1 : decode cX6_looked 1 = .ok (.ifCond .lt 26, 3) := by decide +kernel
theorem dX6_looked_4 : decode cX6_looked 4 = .ok (.iload_n 1, 1) := by decide +kernel
theorem dX6_looked_5 : decode cX6_looked 5 = .ok (.aload_n 0, 1) := by decide +kernel
theorem dX6_looked_6 : decode cX6_looked 6 = .ok (.getfield 51, 3) := by decide +kernel
theorem dX6_looked_9 : decode cX6_looked 9 = .ok (.getfield 212, 3) := by decide +kernel
theorem dX6_looked_12 : decode cX6_looked 12 = .ok (.if_icmp .ge 15, 3) := by decide +kernel
theorem dX6_looked_15 : decode cX6_looked 15 = .ok (.aload_n 0, 1) := by decide +kernel
theorem dX6_looked_16 : decode cX6_looked 16 = .ok (.getfield 51, 3) := by decide +kernel
theorem dX6_looked_19 : decode cX6_looked 19 = .ok (.getfield 213, 3) := by decide +kernel
theorem dX6_looked_22 : decode cX6_looked 22 = .ok (.iload_n 1, 1) := by decide +kernel
theorem dX6_looked_23 : decode cX6_looked 23 = .ok (.iaload, 1) := by decide +kernel
theorem dX6_looked_24 : decode cX6_looked 24 = .ok (.goto 4, 3) := by decide +kernel
theorem dX6_looked_27 : decode cX6_looked 27 = .ok (.iconst (-1), 1) := by decide +kernel
theorem dX6_looked_28 : decode cX6_looked 28 = .ok (.ireturn, 1) := by decide +kernel
theorem dX6_about_0 : decode cX6_about 0 = .ok (.iload_n 1, 1) := by decide +kernel
theorem dX6_about_1 : decode cX6_about 1 = .ok (.tableswitch 75 0 4 #[35, 43, 51, 59, 67], 35) := by decide +kernel
theorem dX6_about_36 : decode cX6_about 36 = .ok (.aload_n 0, 1) := by decide +kernel
theorem dX6_about_37 : decode cX6_about 37 = .ok (.getfield 10, 3) := by decide +kernel
theorem dX6_about_40 : decode cX6_about 40 = .ok (.getfield 216, 3) := by decide +kernel
theorem dX6_about_43 : decode cX6_about 43 = .ok (.ireturn, 1) := by decide +kernel
theorem dX6_about_44 : decode cX6_about 44 = .ok (.aload_n 0, 1) := by decide +kernel
theorem dX6_about_45 : decode cX6_about 45 = .ok (.getfield 19, 3) := by decide +kernel
theorem dX6_about_48 : decode cX6_about 48 = .ok (.getfield 217, 3) := by decide +kernel
theorem dX6_about_51 : decode cX6_about 51 = .ok (.ireturn, 1) := by decide +kernel
theorem dX6_about_52 : decode cX6_about 52 = .ok (.aload_n 0, 1) := by decide +kernel
theorem dX6_about_53 : decode cX6_about 53 = .ok (.getfield 19, 3) := by decide +kernel
theorem dX6_about_56 : decode cX6_about 56 = .ok (.getfield 102, 3) := by decide +kernel
theorem dX6_about_59 : decode cX6_about 59 = .ok (.ireturn, 1) := by decide +kernel
theorem dX6_about_60 : decode cX6_about 60 = .ok (.aload_n 0, 1) := by decide +kernel
theorem dX6_about_61 : decode cX6_about 61 = .ok (.getfield 26, 3) := by decide +kernel
theorem dX6_about_64 : decode cX6_about 64 = .ok (.getfield 196, 3) := by decide +kernel
theorem dX6_about_67 : decode cX6_about 67 = .ok (.ireturn, 1) := by decide +kernel
theorem dX6_about_68 : decode cX6_about 68 = .ok (.aload_n 0, 1) := by decide +kernel
theorem dX6_about_69 : decode cX6_about 69 = .ok (.getfield 51, 3) := by decide +kernel
theorem dX6_about_72 : decode cX6_about 72 = .ok (.getfield 212, 3) := by decide +kernel
theorem dX6_about_75 : decode cX6_about 75 = .ok (.ireturn, 1) := by decide +kernel
theorem dX6_about_76 : decode cX6_about 76 = .ok (.iconst (-1), 1) := by decide +kernel
theorem dX6_about_77 : decode cX6_about 77 = .ok (.ireturn, 1) := by decide +kernel
set_option maxRecDepth 20000 in
theorem ggX6_follow_X1_next : GoodIn wsX6_follow wsX1_next := goodIn_r _ [8, 9, 10, 11, 12, 13, 14, 15, 16, 17, 18, 19, 20, 21, 22, 23, 24, 25, 26, 27, 28, 29, 30, 31, 32, 33, 34, 35, 36, 7, 37, 38, 39, 40, 41, 42, 43, 44, 45, 46, 47, 48, 49, 50, 51, 52, 53, 54, 55, 56, 57, 58, 59, 60, 61, 62, 63, 64, 65, 66, 67, 68, 69, 70, 71, 72, 73, 74, 75, 76, 77, 78, 79, 80, 81, 82, 83, 84, 85, 86, 87, 88, 89, 90, 91, 113, 114, 115, 116, 117, 118, 119, 107, 108, 109, 110, 111, 112, 120, 121, 122, 123, 124, 125, 126] rfl (by decide +kernel)
set_option maxRecDepth 20000 in
theorem gX6_follow_X1_next : GoodIn wsX6_follow (wsV RX6 167 RX1 yX1_next wsX1_next) := goodIn_app (goodIn_of _ (by decide +kernel)) ggX6_follow_X1_next
set_option maxRecDepth 20000 in
theorem ggX6_follow_X5_append : GoodIn wsX6_follow wsX5_append := goodIn_r _ [96, 97, 98, 105, 106] rfl (by decide +kernel)
set_option maxRecDepth 20000 in
theorem gX6_follow_X5_append : GoodIn wsX6_follow (wsV RX6 218 RX5 yX5_append wsX5_append) := goodIn_app (goodIn_of _ (by decide +kernel)) ggX6_follow_X5_append
theorem dX6_follow_0 : decode cX6_follow 0 = .ok (.aload_n 0, 1) := by decide +kernel
theorem dX6_follow_1 : decode cX6_follow 1 = .ok (.getfield 51, 3) := by decide +kernel
theorem dX6_follow_4 : decode cX6_follow 4 = .ok (.iconst 0, 1) := by decide +kernel
theorem dX6_follow_5 : decode cX6_follow 5 = .ok (.putfield 212, 3) := by decide +kernel
theorem dX6_follow_8 : decode cX6_follow 8 = .ok (.aload_n 0, 1) := by decide +kernel
theorem dX6_follow_9 : decode cX6_follow 9 = .ok (.getfield 10, 3) := by decide +kernel
theorem dX6_follow_12 : decode cX6_follow 12 = .ok (.getfield 151, 3) := by decide +kernel
theorem dX6_follow_15 : decode cX6_follow 15 = .ok (.istore_n 3, 1) := by decide +kernel
theorem dX6_follow_16 : decode cX6_follow 16 = .ok (.iconst 0, 1) := by decide +kernel
theorem dX6_follow_17 : decode cX6_follow 17 = .ok (.istore 4, 2) := by decide +kernel
theorem dX6_follow_19 : decode cX6_follow 19 = .ok (.iconst 0, 1) := by decide +kernel
theorem dX6_follow_20 : decode cX6_follow 20 = .ok (.istore 5, 2) := by decide +kernel
theorem dX6_follow_22 : decode cX6_follow 22 = .ok (.iload 5, 2) := by decide +kernel
theorem dX6_follow_24 : decode cX6_follow 24 = .ok (.aload_n 0, 1) := by decide +kernel
theorem dX6_follow_25 : decode cX6_follow 25 = .ok (.getfield 10, 3) := by decide +kernel
theorem dX6_follow_28 : decode cX6_follow 28 = .ok (.getfield 216, 3) := by decide +kernel
theorem dX6_follow_31 : decode cX6_follow 31 = .ok (.if_icmp .ge 63, 3) := by decide +kernel
theorem dX6_follow_34 : decode cX6_follow 34 = .ok (.aload_n 0, 1) := by decide +kernel
theorem dX6_follow_35 : decode cX6_follow 35 = .ok (.getfield 35, 3) := by decide +kernel
theorem dX6_follow_38 : decode cX6_follow 38 = .ok (.iload_n 1, 1) := by decide +kernel
theorem dX6_follow_39 : decode cX6_follow 39 = .ok (.iload_n 3, 1) := by decide +kernel
theorem dX6_follow_40 : decode cX6_follow 40 = .ok (.iload_n 2, 1) := by decide +kernel
theorem dX6_follow_41 : decode cX6_follow 41 = .ok (.iload_n 3, 1) := by decide +kernel
theorem dX6_follow_42 : decode cX6_follow 42 = .ok (.iand, 1) := by decide +kernel
theorem dX6_follow_43 : decode cX6_follow 43 = .ok (.invokevirtual 167, 3) := by decide +kernel
theorem dX6_follow_46 : decode cX6_follow 46 = .ok (.istore 6, 2) := by decide +kernel
theorem dX6_follow_48 : decode cX6_follow 48 = .ok (.iload 6, 2) := by decide +kernel
theorem dX6_follow_50 : decode cX6_follow 50 = .ok (.iconst (-1), 1) := by decide +kernel
theorem dX6_follow_51 : decode cX6_follow 51 = .ok (.if_icmp .ne 6, 3) := by decide +kernel
theorem dX6_follow_54 : decode cX6_follow 54 = .ok (.goto 40, 3) := by decide +kernel
theorem dX6_follow_57 : decode cX6_follow 57 = .ok (.aload_n 0, 1) := by decide +kernel
theorem dX6_follow_58 : decode cX6_follow 58 = .ok (.getfield 51, 3) := by decide +kernel
theorem dX6_follow_61 : decode cX6_follow 61 = .ok (.iload 6, 2) := by decide +kernel
theorem dX6_follow_63 : decode cX6_follow 63 = .ok (.invokevirtual 218, 3) := by decide +kernel
theorem dX6_follow_66 : decode cX6_follow 66 = .ok (.iload 4, 2) := by decide +kernel
theorem dX6_follow_68 : decode cX6_follow 68 = .ok (.aload_n 0, 1) := by decide +kernel
theorem dX6_follow_69 : decode cX6_follow 69 = .ok (.getfield 10, 3) := by decide +kernel
theorem dX6_follow_72 : decode cX6_follow 72 = .ok (.getfield 135, 3) := by decide +kernel
theorem dX6_follow_75 : decode cX6_follow 75 = .ok (.iload 6, 2) := by decide +kernel
theorem dX6_follow_77 : decode cX6_follow 77 = .ok (.iaload, 1) := by decide +kernel
theorem dX6_follow_78 : decode cX6_follow 78 = .ok (.iadd, 1) := by decide +kernel
theorem dX6_follow_79 : decode cX6_follow 79 = .ok (.istore 4, 2) := by decide +kernel
theorem dX6_follow_81 : decode cX6_follow 81 = .ok (.iload_n 3, 1) := by decide +kernel
theorem dX6_follow_82 : decode cX6_follow 82 = .ok (.iconst 1, 1) := by decide +kernel
theorem dX6_follow_83 : decode cX6_follow 83 = .ok (.iload 6, 2) := by decide +kernel
theorem dX6_follow_85 : decode cX6_follow 85 = .ok (.ishl, 1) := by decide +kernel
theorem dX6_follow_86 : decode cX6_follow 86 = .ok (.ior, 1) := by decide +kernel
theorem dX6_follow_87 : decode cX6_follow 87 = .ok (.istore_n 3, 1) := by decide +kernel
theorem dX6_follow_88 : decode cX6_follow 88 = .ok (.iinc 5 1, 3) := by decide +kernel
theorem dX6_follow_91 : decode cX6_follow 91 = .ok (.goto (-69), 3) := by decide +kernel
theorem dX6_follow_94 : decode cX6_follow 94 = .ok (.iload 4, 2) := by decide +kernel
theorem dX6_follow_96 : decode cX6_follow 96 = .ok (.ireturn, 1) := by decide +kernel
theorem dX7_init_0 : decode cX7_init 0 = .ok (.aload_n 0, 1) := by decide +kernel
theorem dX7_init_1 : decode cX7_init 1 = .ok (.invokespecial 1, 3) := by decide +kernel
theorem dX7_init_4 : decode cX7_init 4 = .ok (.aload_n 0, 1) := by decide +kernel
theorem dX7_init_5 : decode cX7_init 5 = .ok (.iconst 1, 1) := by decide +kernel
theorem dX7_init_6 : decode cX7_init 6 = .ok (.putfield 7, 3) := by decide +kernel
theorem dX7_init_9 : decode cX7_init 9 = .ok (.aload_n 0, 1) := by decide +kernel
theorem dX7_init_10 : decode cX7_init 10 = .ok (.bipush 9, 2) := by decide +kernel
theorem dX7_init_12 : decode cX7_init 12 = .ok (.newarray .int, 2) := by decide +kernel
theorem dX7_init_14 : decode cX7_init 14 = .ok (.dup, 1) := by decide +kernel
theorem dX7_init_15 : decode cX7_init 15 = .ok (.iconst 0, 1) := by decide +kernel
theorem dX7_init_16 : decode cX7_init 16 = .ok (.iconst 1, 1) := by decide +kernel
theorem dX7_init_17 : decode cX7_init 17 = .ok (.iastore, 1) := by decide +kernel
theorem dX7_init_18 : decode cX7_init 18 = .ok (.dup, 1) := by decide +kernel
theorem dX7_init_19 : decode cX7_init 19 = .ok (.iconst 1, 1) := by decide +kernel
theorem dX7_init_20 : decode cX7_init 20 = .ok (.iconst 1, 1) := by decide +kernel
theorem dX7_init_21 : decode cX7_init 21 = .ok (.iastore, 1) := by decide +kernel
theorem dX7_init_22 : decode cX7_init 22 = .ok (.dup, 1) := by decide +kernel
theorem dX7_init_23 : decode cX7_init 23 = .ok (.iconst 2, 1) := by decide +kernel
theorem dX7_init_24 : decode cX7_init 24 = .ok (.iconst 1, 1) := by decide +kernel
theorem dX7_init_25 : decode cX7_init 25 = .ok (.iastore, 1) := by decide +kernel
theorem dX7_init_26 : decode cX7_init 26 = .ok (.dup, 1) := by decide +kernel
theorem dX7_init_27 : decode cX7_init 27 = .ok (.iconst 3, 1) := by decide +kernel
theorem dX7_init_28 : decode cX7_init 28 = .ok (.iconst 1, 1) := by decide +kernel
theorem dX7_init_29 : decode cX7_init 29 = .ok (.iastore, 1) := by decide +kernel
theorem dX7_init_30 : decode cX7_init 30 = .ok (.dup, 1) := by decide +kernel
theorem dX7_init_31 : decode cX7_init 31 = .ok (.iconst 4, 1) := by decide +kernel
theorem dX7_init_32 : decode cX7_init 32 = .ok (.iconst 1, 1) := by decide +kernel
theorem dX7_init_33 : decode cX7_init 33 = .ok (.iastore, 1) := by decide +kernel
theorem dX7_init_34 : decode cX7_init 34 = .ok (.dup, 1) := by decide +kernel
theorem dX7_init_35 : decode cX7_init 35 = .ok (.iconst 5, 1) := by decide +kernel
theorem dX7_init_36 : decode cX7_init 36 = .ok (.iconst 1, 1) := by decide +kernel
theorem dX7_init_37 : decode cX7_init 37 = .ok (.iastore, 1) := by decide +kernel
theorem dX7_init_38 : decode cX7_init 38 = .ok (.dup, 1) := by decide +kernel
theorem dX7_init_39 : decode cX7_init 39 = .ok (.bipush 6, 2) := by decide +kernel
theorem dX7_init_41 : decode cX7_init 41 = .ok (.iconst 1, 1) := by decide +kernel
theorem dX7_init_42 : decode cX7_init 42 = .ok (.iastore, 1) := by decide +kernel
theorem dX7_init_43 : decode cX7_init 43 = .ok (.dup, 1) := by decide +kernel
theorem dX7_init_44 : decode cX7_init 44 = .ok (.bipush 7, 2) := by decide +kernel
theorem dX7_init_46 : decode cX7_init 46 = .ok (.iconst 1, 1) := by decide +kernel
theorem dX7_init_47 : decode cX7_init 47 = .ok (.iastore, 1) := by decide +kernel
theorem dX7_init_48 : decode cX7_init 48 = .ok (.dup, 1) := by decide +kernel
theorem dX7_init_49 : decode cX7_init 49 = .ok (.bipush 8, 2) := by decide +kernel
theorem dX7_init_51 : decode cX7_init 51 = .ok (.iconst 1, 1) := by decide +kernel
theorem dX7_init_52 : decode cX7_init 52 = .ok (.iastore, 1) := by decide +kernel
theorem dX7_init_53 : decode cX7_init 53 = .ok (.putfield 13, 3) := by decide +kernel
theorem dX7_init_56 : decode cX7_init 56 = .ok (.aload_n 0, 1) := by decide +kernel
theorem dX7_init_57 : decode cX7_init 57 = .ok (.bipush 9, 2) := by decide +kernel
theorem dX7_init_59 : decode cX7_init 59 = .ok (.newarray .int, 2) := by decide +kernel
theorem dX7_init_61 : decode cX7_init 61 = .ok (.dup, 1) := by decide +kernel
theorem dX7_init_62 : decode cX7_init 62 = .ok (.iconst 0, 1) := by decide +kernel
theorem dX7_init_63 : decode cX7_init 63 = .ok (.iconst 1, 1) := by decide +kernel
theorem dX7_init_64 : decode cX7_init 64 = .ok (.iastore, 1) := by decide +kernel
theorem dX7_init_65 : decode cX7_init 65 = .ok (.dup, 1) := by decide +kernel
theorem dX7_init_66 : decode cX7_init 66 = .ok (.iconst 1, 1) := by decide +kernel
theorem dX7_init_67 : decode cX7_init 67 = .ok (.iconst 1, 1) := by decide +kernel
theorem dX7_init_68 : decode cX7_init 68 = .ok (.iastore, 1) := by decide +kernel
theorem dX7_init_69 : decode cX7_init 69 = .ok (.dup, 1) := by decide +kernel
theorem dX7_init_70 : decode cX7_init 70 = .ok (.iconst 2, 1) := by decide +kernel
theorem dX7_init_71 : decode cX7_init 71 = .ok (.iconst 1, 1) := by decide +kernel
theorem dX7_init_72 : decode cX7_init 72 = .ok (.iastore, 1) := by decide +kernel
theorem dX7_init_73 : decode cX7_init 73 = .ok (.dup, 1) := by decide +kernel
theorem dX7_init_74 : decode cX7_init 74 = .ok (.iconst 3, 1) := by decide +kernel
theorem dX7_init_75 : decode cX7_init 75 = .ok (.iconst 1, 1) := by decide +kernel
theorem dX7_init_76 : decode cX7_init 76 = .ok (.iastore, 1) := by decide +kernel
theorem dX7_init_77 : decode cX7_init 77 = .ok (.dup, 1) := by decide +kernel
theorem dX7_init_78 : decode cX7_init 78 = .ok (.iconst 4, 1) := by decide +kernel
theorem dX7_init_79 : decode cX7_init 79 = .ok (.iconst 1, 1) := by decide +kernel
theorem dX7_init_80 : decode cX7_init 80 = .ok (.iastore, 1) := by decide +kernel
theorem dX7_init_81 : decode cX7_init 81 = .ok (.dup, 1) := by decide +kernel
theorem dX7_init_82 : decode cX7_init 82 = .ok (.iconst 5, 1) := by decide +kernel
theorem dX7_init_83 : decode cX7_init 83 = .ok (.iconst 1, 1) := by decide +kernel
theorem dX7_init_84 : decode cX7_init 84 = .ok (.iastore, 1) := by decide +kernel
theorem dX7_init_85 : decode cX7_init 85 = .ok (.dup, 1) := by decide +kernel
theorem dX7_init_86 : decode cX7_init 86 = .ok (.bipush 6, 2) := by decide +kernel
theorem dX7_init_88 : decode cX7_init 88 = .ok (.iconst 1, 1) := by decide +kernel
theorem dX7_init_89 : decode cX7_init 89 = .ok (.iastore, 1) := by decide +kernel
theorem dX7_init_90 : decode cX7_init 90 = .ok (.dup, 1) := by decide +kernel
theorem dX7_init_91 : decode cX7_init 91 = .ok (.bipush 7, 2) := by decide +kernel
theorem dX7_init_93 : decode cX7_init 93 = .ok (.iconst 1, 1) := by decide +kernel
theorem dX7_init_94 : decode cX7_init 94 = .ok (.iastore, 1) := by decide +kernel
theorem dX7_init_95 : decode cX7_init 95 = .ok (.dup, 1) := by decide +kernel
theorem dX7_init_96 : decode cX7_init 96 = .ok (.bipush 8, 2) := by decide +kernel
theorem dX7_init_98 : decode cX7_init 98 = .ok (.iconst 1, 1) := by decide +kernel
theorem dX7_init_99 : decode cX7_init 99 = .ok (.iastore, 1) := by decide +kernel
theorem dX7_init_100 : decode cX7_init 100 = .ok (.putfield 17, 3) := by decide +kernel
theorem dX7_init_103 : decode cX7_init 103 = .ok (.aload_n 0, 1) := by decide +kernel
theorem dX7_init_104 : decode cX7_init 104 = .ok (.bipush 9, 2) := by decide +kernel
theorem dX7_init_106 : decode cX7_init 106 = .ok (.newarray .int, 2) := by decide +kernel
theorem dX7_init_108 : decode cX7_init 108 = .ok (.dup, 1) := by decide +kernel
theorem dX7_init_109 : decode cX7_init 109 = .ok (.iconst 0, 1) := by decide +kernel
theorem dX7_init_110 : decode cX7_init 110 = .ok (.iconst 1, 1) := by decide +kernel
theorem dX7_init_111 : decode cX7_init 111 = .ok (.iastore, 1) := by decide +kernel
theorem dX7_init_112 : decode cX7_init 112 = .ok (.dup, 1) := by decide +kernel
theorem dX7_init_113 : decode cX7_init 113 = .ok (.iconst 1, 1) := by decide +kernel
theorem dX7_init_114 : decode cX7_init 114 = .ok (.iconst 1, 1) := by decide +kernel
theorem dX7_init_115 : decode cX7_init 115 = .ok (.iastore, 1) := by decide +kernel
theorem dX7_init_116 : decode cX7_init 116 = .ok (.dup, 1) := by decide +kernel
theorem dX7_init_117 : decode cX7_init 117 = .ok (.iconst 2, 1) := by decide +kernel
theorem dX7_init_118 : decode cX7_init 118 = .ok (.iconst 1, 1) := by decide +kernel
theorem dX7_init_119 : decode cX7_init 119 = .ok (.iastore, 1) := by decide +kernel
theorem dX7_init_120 : decode cX7_init 120 = .ok (.dup, 1) := by decide +kernel
theorem dX7_init_121 : decode cX7_init 121 = .ok (.iconst 3, 1) := by decide +kernel
theorem dX7_init_122 : decode cX7_init 122 = .ok (.iconst 1, 1) := by decide +kernel
theorem dX7_init_123 : decode cX7_init 123 = .ok (.iastore, 1) := by decide +kernel
theorem dX7_init_124 : decode cX7_init 124 = .ok (.dup, 1) := by decide +kernel
theorem dX7_init_125 : decode cX7_init 125 = .ok (.iconst 4, 1) := by decide +kernel
theorem dX7_init_126 : decode cX7_init 126 = .ok (.iconst 1, 1) := by decide +kernel
theorem dX7_init_127 : decode cX7_init 127 = .ok (.iastore, 1) := by decide +kernel
theorem dX7_init_128 : decode cX7_init 128 = .ok (.dup, 1) := by decide +kernel
theorem dX7_init_129 : decode cX7_init 129 = .ok (.iconst 5, 1) := by decide +kernel
theorem dX7_init_130 : decode cX7_init 130 = .ok (.iconst 1, 1) := by decide +kernel
theorem dX7_init_131 : decode cX7_init 131 = .ok (.iastore, 1) := by decide +kernel
theorem dX7_init_132 : decode cX7_init 132 = .ok (.dup, 1) := by decide +kernel
theorem dX7_init_133 : decode cX7_init 133 = .ok (.bipush 6, 2) := by decide +kernel
theorem dX7_init_135 : decode cX7_init 135 = .ok (.iconst 1, 1) := by decide +kernel
theorem dX7_init_136 : decode cX7_init 136 = .ok (.iastore, 1) := by decide +kernel
theorem dX7_init_137 : decode cX7_init 137 = .ok (.dup, 1) := by decide +kernel
theorem dX7_init_138 : decode cX7_init 138 = .ok (.bipush 7, 2) := by decide +kernel
theorem dX7_init_140 : decode cX7_init 140 = .ok (.iconst 1, 1) := by decide +kernel
theorem dX7_init_141 : decode cX7_init 141 = .ok (.iastore, 1) := by decide +kernel
theorem dX7_init_142 : decode cX7_init 142 = .ok (.dup, 1) := by decide +kernel
theorem dX7_init_143 : decode cX7_init 143 = .ok (.bipush 8, 2) := by decide +kernel
theorem dX7_init_145 : decode cX7_init 145 = .ok (.iconst 1, 1) := by decide +kernel
theorem dX7_init_146 : decode cX7_init 146 = .ok (.iastore, 1) := by decide +kernel
theorem dX7_init_147 : decode cX7_init 147 = .ok (.putfield 20, 3) := by decide +kernel
theorem dX7_init_150 : decode cX7_init 150 = .ok (.aload_n 0, 1) := by decide +kernel
theorem dX7_init_151 : decode cX7_init 151 = .ok (.sipush 20480, 3) := by decide +kernel
theorem dX7_init_154 : decode cX7_init 154 = .ok (.newarray .boolean, 2) := by decide +kernel
theorem dX7_init_156 : decode cX7_init 156 = .ok (.putfield 23, 3) := by decide +kernel
theorem dX7_init_159 : decode cX7_init 159 = .ok (.aload_n 0, 1) := by decide +kernel
theorem dX7_init_160 : decode cX7_init 160 = .ok (.iconst (-1), 1) := by decide +kernel
theorem dX7_init_161 : decode cX7_init 161 = .ok (.putfield 27, 3) := by decide +kernel
theorem dX7_init_164 : decode cX7_init 164 = .ok (.aload_n 0, 1) := by decide +kernel
theorem dX7_init_165 : decode cX7_init 165 = .ok (.bipush 9, 2) := by decide +kernel
theorem dX7_init_167 : decode cX7_init 167 = .ok (.newarray .int, 2) := by decide +kernel
theorem dX7_init_169 : decode cX7_init 169 = .ok (.dup, 1) := by decide +kernel
theorem dX7_init_170 : decode cX7_init 170 = .ok (.iconst 0, 1) := by decide +kernel
theorem dX7_init_171 : decode cX7_init 171 = .ok (.iconst (-1), 1) := by decide +kernel
theorem dX7_init_172 : decode cX7_init 172 = .ok (.iastore, 1) := by decide +kernel
theorem dX7_init_173 : decode cX7_init 173 = .ok (.dup, 1) := by decide +kernel
theorem dX7_init_174 : decode cX7_init 174 = .ok (.iconst 1, 1) := by decide +kernel
theorem dX7_init_175 : decode cX7_init 175 = .ok (.iconst (-1), 1) := by decide +kernel
theorem dX7_init_176 : decode cX7_init 176 = .ok (.iastore, 1) := by decide +kernel
theorem dX7_init_177 : decode cX7_init 177 = .ok (.dup, 1) := by decide +kernel
theorem dX7_init_178 : decode cX7_init 178 = .ok (.iconst 2, 1) := by decide +kernel
theorem dX7_init_179 : decode cX7_init 179 = .ok (.iconst (-1), 1) := by decide +kernel
theorem dX7_init_180 : decode cX7_init 180 = .ok (.iastore, 1) := by decide +kernel
theorem dX7_init_181 : decode cX7_init 181 = .ok (.dup, 1) := by decide +kernel
theorem dX7_init_182 : decode cX7_init 182 = .ok (.iconst 3, 1) := by decide +kernel
theorem dX7_init_183 : decode cX7_init 183 = .ok (.iconst (-1), 1) := by decide +kernel
theorem dX7_init_184 : decode cX7_init 184 = .ok (.iastore, 1) := by decide +kernel
theorem dX7_init_185 : decode cX7_init 185 = .ok (.dup, 1) := by decide +kernel
theorem dX7_init_186 : decode cX7_init 186 = .ok (.iconst 4, 1) := by decide +kernel
theorem dX7_init_187 : decode cX7_init 187 = .ok (.iconst (-1), 1) := by decide +kernel
theorem dX7_init_188 : decode cX7_init 188 = .ok (.iastore, 1) := by decide +kernel
theorem dX7_init_189 : decode cX7_init 189 = .ok (.dup, 1) := by decide +kernel
theorem dX7_init_190 : decode cX7_init 190 = .ok (.iconst 5, 1) := by decide +kernel
theorem dX7_init_191 : decode cX7_init 191 = .ok (.iconst (-1), 1) := by decide +kernel
theorem dX7_init_192 : decode cX7_init 192 = .ok (.iastore, 1) := by decide +kernel
theorem dX7_init_193 : decode cX7_init 193 = .ok (.dup, 1) := by decide +kernel
theorem dX7_init_194 : decode cX7_init 194 = .ok (.bipush 6, 2) := by decide +kernel
theorem dX7_init_196 : decode cX7_init 196 = .ok (.iconst (-1), 1) := by decide +kernel
theorem dX7_init_197 : decode cX7_init 197 = .ok (.iastore, 1) := by decide +kernel
theorem dX7_init_198 : decode cX7_init 198 = .ok (.dup, 1) := by decide +kernel
theorem dX7_init_199 : decode cX7_init 199 = .ok (.bipush 7, 2) := by decide +kernel
theorem dX7_init_201 : decode cX7_init 201 = .ok (.iconst (-1), 1) := by decide +kernel
theorem dX7_init_202 : decode cX7_init 202 = .ok (.iastore, 1) := by decide +kernel
theorem dX7_init_203 : decode cX7_init 203 = .ok (.dup, 1) := by decide +kernel
theorem dX7_init_204 : decode cX7_init 204 = .ok (.bipush 8, 2) := by decide +kernel
theorem dX7_init_206 : decode cX7_init 206 = .ok (.iconst (-1), 1) := by decide +kernel
theorem dX7_init_207 : decode cX7_init 207 = .ok (.iastore, 1) := by decide +kernel
theorem dX7_init_208 : decode cX7_init 208 = .ok (.putfield 30, 3) := by decide +kernel
theorem dX7_init_211 : decode cX7_init 211 = .ok (.aload_n 0, 1) := by decide +kernel
theorem dX7_init_212 : decode cX7_init 212 = .ok (.bipush 9, 2) := by decide +kernel
theorem dX7_init_214 : decode cX7_init 214 = .ok (.newarray .int, 2) := by decide +kernel
theorem dX7_init_216 : decode cX7_init 216 = .ok (.putfield 33, 3) := by decide +kernel
theorem dX7_init_219 : decode cX7_init 219 = .ok (.aload_n 0, 1) := by decide +kernel
theorem dX7_init_220 : decode cX7_init 220 = .ok (.bipush 9, 2) := by decide +kernel
theorem dX7_init_222 : decode cX7_init 222 = .ok (.newarray .int, 2) := by decide +kernel
theorem dX7_init_224 : decode cX7_init 224 = .ok (.putfield 36, 3) := by decide +kernel
theorem dX7_init_227 : decode cX7_init 227 = .ok (.aload_n 0, 1) := by decide +kernel
theorem dX7_init_228 : decode cX7_init 228 = .ok (.sipush 19683, 3) := by decide +kernel
theorem dX7_init_231 : decode cX7_init 231 = .ok (.newarray .long, 2) := by decide +kernel
theorem dX7_init_233 : decode cX7_init 233 = .ok (.putfield 39, 3) := by decide +kernel
theorem dX7_init_236 : decode cX7_init 236 = .ok (.aload_n 0, 1) := by decide +kernel
theorem dX7_init_237 : decode cX7_init 237 = .ok (.sipush 19683, 3) := by decide +kernel
theorem dX7_init_240 : decode cX7_init 240 = .ok (.newarray .int, 2) := by decide +kernel
theorem dX7_init_242 : decode cX7_init 242 = .ok (.putfield 43, 3) := by decide +kernel
theorem dX7_init_245 : decode cX7_init 245 = .ok (.aload_n 0, 1) := by decide +kernel
theorem dX7_init_246 : decode cX7_init 246 = .ok (.sipush 19683, 3) := by decide +kernel
theorem dX7_init_249 : decode cX7_init 249 = .ok (.newarray .int, 2) := by decide +kernel
theorem dX7_init_251 : decode cX7_init 251 = .ok (.putfield 46, 3) := by decide +kernel
theorem dX7_init_254 : decode cX7_init 254 = .ok (.aload_n 0, 1) := by decide +kernel
theorem dX7_init_255 : decode cX7_init 255 = .ok (.sipush 19683, 3) := by decide +kernel
theorem dX7_init_258 : decode cX7_init 258 = .ok (.newarray .int, 2) := by decide +kernel
theorem dX7_init_260 : decode cX7_init 260 = .ok (.putfield 49, 3) := by decide +kernel
theorem dX7_init_263 : decode cX7_init 263 = .ok (.aload_n 0, 1) := by decide +kernel
theorem dX7_init_264 : decode cX7_init 264 = .ok (.bipush 9, 2) := by decide +kernel
theorem dX7_init_266 : decode cX7_init 266 = .ok (.newarray .int, 2) := by decide +kernel
theorem dX7_init_268 : decode cX7_init 268 = .ok (.dup, 1) := by decide +kernel
theorem dX7_init_269 : decode cX7_init 269 = .ok (.iconst 0, 1) := by decide +kernel
theorem dX7_init_270 : decode cX7_init 270 = .ok (.iconst 1, 1) := by decide +kernel
theorem dX7_init_271 : decode cX7_init 271 = .ok (.iastore, 1) := by decide +kernel
