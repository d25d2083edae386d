theorem dX7_init_272 : decode cX7_init 272 = .ok (.dup, 1) := by decide +kernel
theorem dX7_init_273 : decode cX7_init 273 = .ok (.iconst 1, 1) := by decide +kernel
theorem dX7_init_274 : decode cX7_init 274 = .ok (.iconst 3, 1) := by decide +kernel
theorem dX7_init_275 : decode cX7_init 275 = .ok (.iastore, 1) := by decide +kernel
theorem dX7_init_276 : decode cX7_init 276 = .ok (.dup, 1) := by decide +kernel
theorem dX7_init_277 : decode cX7_init 277 = .ok (.iconst 2, 1) := by decide +kernel
theorem dX7_init_278 : decode cX7_init 278 = .ok (.bipush 9, 2) := by decide +kernel
theorem dX7_init_280 : decode cX7_init 280 = .ok (.iastore, 1) := by decide +kernel
theorem dX7_init_281 : decode cX7_init 281 = .ok (.dup, 1) := by decide +kernel
theorem dX7_init_282 : decode cX7_init 282 = .ok (.iconst 3, 1) := by decide +kernel
theorem dX7_init_283 : decode cX7_init 283 = .ok (.bipush 27, 2) := by decide +kernel
theorem dX7_init_285 : decode cX7_init 285 = .ok (.iastore, 1) := by decide +kernel
theorem dX7_init_286 : decode cX7_init 286 = .ok (.dup, 1) := by decide +kernel
theorem dX7_init_287 : decode cX7_init 287 = .ok (.iconst 4, 1) := by decide +kernel
theorem dX7_init_288 : decode cX7_init 288 = .ok (.bipush 81, 2) := by decide +kernel
theorem dX7_init_290 : decode cX7_init 290 = .ok (.iastore, 1) := by decide +kernel
theorem dX7_init_291 : decode cX7_init 291 = .ok (.dup, 1) := by decide +kernel
theorem dX7_init_292 : decode cX7_init 292 = .ok (.iconst 5, 1) := by decide +kernel
theorem dX7_init_293 : decode cX7_init 293 = .ok (.sipush 243, 3) := by decide +kernel
theorem dX7_init_296 : decode cX7_init 296 = .ok (.iastore, 1) := by decide +kernel
theorem dX7_init_297 : decode cX7_init 297 = .ok (.dup, 1) := by decide +kernel
theorem dX7_init_298 : decode cX7_init 298 = .ok (.bipush 6, 2) := by decide +kernel
theorem dX7_init_300 : decode cX7_init 300 = .ok (.sipush 729, 3) := by decide +kernel
theorem dX7_init_303 : decode cX7_init 303 = .ok (.iastore, 1) := by decide +kernel
theorem dX7_init_304 : decode cX7_init 304 = .ok (.dup, 1) := by decide +kernel
theorem dX7_init_305 : decode cX7_init 305 = .ok (.bipush 7, 2) := by decide +kernel
theorem dX7_init_307 : decode cX7_init 307 = .ok (.sipush 2187, 3) := by decide +kernel
theorem dX7_init_310 : decode cX7_init 310 = .ok (.iastore, 1) := by decide +kernel
theorem dX7_init_311 : decode cX7_init 311 = .ok (.dup, 1) := by decide +kernel
theorem dX7_init_312 : decode cX7_init 312 = .ok (.bipush 8, 2) := by decide +kernel
theorem dX7_init_314 : decode cX7_init 314 = .ok (.sipush 6561, 3) := by decide +kernel
theorem dX7_init_317 : decode cX7_init 317 = .ok (.iastore, 1) := by decide +kernel
theorem dX7_init_318 : decode cX7_init 318 = .ok (.putfield 52, 3) := by decide +kernel
theorem dX7_init_321 : decode cX7_init 321 = .ok (.return_, 1) := by decide +kernel
theorem dX7_in_0 : decode cX7_in 0 = .ok (.lload_n 0, 1) := by decide +kernel
theorem dX7_in_1 : decode cX7_in 1 = .ok (.lload_n 2, 1) := by decide +kernel
theorem dX7_in_2 : decode cX7_in 2 = .ok (.lcmp, 1) := by decide +kernel
theorem dX7_in_3 : decode cX7_in 3 = .ok (.ifCond .lt 14, 3) := by decide +kernel
theorem dX7_in_6 : decode cX7_in 6 = .ok (.lload_n 0, 1) := by decide +kernel
theorem dX7_in_7 : decode cX7_in 7 = .ok (.lload 4, 2) := by decide +kernel
theorem dX7_in_9 : decode cX7_in 9 = .ok (.lcmp, 1) := by decide +kernel
theorem dX7_in_10 : decode cX7_in 10 = .ok (.ifCond .gt 7, 3) := by decide +kernel
theorem dX7_in_13 : decode cX7_in 13 = .ok (.iconst 1, 1) := by decide +kernel
theorem dX7_in_14 : decode cX7_in 14 = .ok (.goto 4, 3) := by decide +kernel
theorem dX7_in_17 : decode cX7_in 17 = .ok (.iconst 0, 1) := by decide +kernel
theorem dX7_in_18 : decode cX7_in 18 = .ok (.ireturn, 1) := by decide +kernel
set_option maxRecDepth 20000 in
theorem ggX7_isPart_X7_in : GoodIn wsX7_isPart wsX7_in := goodIn_r _ [5] rfl (by decide +kernel)
set_option maxRecDepth 20000 in
theorem gX7_isPart_X7_in : GoodIn wsX7_isPart (va_wsS RX7 55 yX7_in wsX7_in) := goodIn_app (goodIn_of _ (by decide +kernel)) ggX7_isPart_X7_in
theorem dX7_isPart_0 : decode cX7_isPart 0 = .ok (.iload_n 1, 1) := by decide +kernel
theorem dX7_isPart_1 : decode cX7_isPart 1 = .ok (.i2l, 1) := by decide +kernel
theorem dX7_isPart_2 : decode cX7_isPart 2 = .ok (.lconst 0, 1) := by decide +kernel
theorem dX7_isPart_3 : decode cX7_isPart 3 = .ok (.aload_n 0, 1) := by decide +kernel
theorem dX7_isPart_4 : decode cX7_isPart 4 = .ok (.getfield 7, 3) := by decide +kernel
theorem dX7_isPart_7 : decode cX7_isPart 7 = .ok (.iconst 1, 1) := by decide +kernel
theorem dX7_isPart_8 : decode cX7_isPart 8 = .ok (.isub, 1) := by decide +kernel
theorem dX7_isPart_9 : decode cX7_isPart 9 = .ok (.i2l, 1) := by decide +kernel
theorem dX7_isPart_10 : decode cX7_isPart 10 = .ok (.invokestatic 55, 3) := by decide +kernel
theorem dX7_isPart_13 : decode cX7_isPart 13 = .ok (.ireturn, 1) := by decide +kernel
set_option maxRecDepth 20000 in
theorem ggX7_isRule_X7_in : GoodIn wsX7_isRule wsX7_in := goodIn_r _ [5] rfl (by decide +kernel)
set_option maxRecDepth 20000 in
theorem gX7_isRule_X7_in : GoodIn wsX7_isRule (va_wsS RX7 55 yX7_in wsX7_in) := goodIn_app (goodIn_of _ (by decide +kernel)) ggX7_isRule_X7_in
theorem dX7_isRule_0 : decode cX7_isRule 0 = .ok (.iload_n 1, 1) := by decide +kernel
theorem dX7_isRule_1 : decode cX7_isRule 1 = .ok (.i2l, 1) := by decide +kernel
theorem dX7_isRule_2 : decode cX7_isRule 2 = .ok (.lconst 0, 1) := by decide +kernel
theorem dX7_isRule_3 : decode cX7_isRule 3 = .ok (.aload_n 0, 1) := by decide +kernel
theorem dX7_isRule_4 : decode cX7_isRule 4 = .ok (.getfield 59, 3) := by decide +kernel
theorem dX7_isRule_7 : decode cX7_isRule 7 = .ok (.iconst 1, 1) := by decide +kernel
theorem dX7_isRule_8 : decode cX7_isRule 8 = .ok (.isub, 1) := by decide +kernel
theorem dX7_isRule_9 : decode cX7_isRule 9 = .ok (.i2l, 1) := by decide +kernel
theorem dX7_isRule_10 : decode cX7_isRule 10 = .ok (.invokestatic 55, 3) := by decide +kernel
theorem dX7_isRule_13 : decode cX7_isRule 13 = .ok (.ireturn, 1) := by decide +kernel
theorem dX7_settings_0 : decode cX7_settings 0 = .ok (.iconst 1, 1) := by decide +kernel
theorem dX7_settings_1 : decode cX7_settings 1 = .ok (.aload_n 0, 1) := by decide +kernel
theorem dX7_settings_2 : decode cX7_settings 2 = .ok (.getfield 7, 3) := by decide +kernel
theorem dX7_settings_5 : decode cX7_settings 5 = .ok (.ishl, 1) := by decide +kernel
theorem dX7_settings_6 : decode cX7_settings 6 = .ok (.ireturn, 1) := by decide +kernel
set_option maxRecDepth 20000 in
theorem ggX7_parts_X7_in : GoodIn wsX7_parts wsX7_in := goodIn_r _ [14] rfl (by decide +kernel)
set_option maxRecDepth 20000 in
theorem gX7_parts_X7_in : GoodIn wsX7_parts (va_wsS RX7 55 yX7_in wsX7_in) := goodIn_app (goodIn_of _ (by decide +kernel)) ggX7_parts_X7_in
theorem dX7_parts_0 : decode cX7_parts 0 = .ok (.iload_n 1, 1) := by decide +kernel
theorem dX7_parts_1 : decode cX7_parts 1 = .ok (.i2l, 1) := by decide +kernel
theorem dX7_parts_2 : decode cX7_parts 2 = .ok (.lconst 1, 1) := by decide +kernel
theorem dX7_parts_3 : decode cX7_parts 3 = .ok (.ldc2_w 62, 3) := by decide +kernel
theorem dX7_parts_6 : decode cX7_parts 6 = .ok (.invokestatic 55, 3) := by decide +kernel
theorem dX7_parts_9 : decode cX7_parts 9 = .ok (.ifCond .ne 5, 3) := by decide +kernel
theorem dX7_parts_12 : decode cX7_parts 12 = .ok (.iconst 0, 1) := by decide +kernel
theorem dX7_parts_13 : decode cX7_parts 13 = .ok (.ireturn, 1) := by decide +kernel
theorem dX7_parts_14 : decode cX7_parts 14 = .ok (.aload_n 0, 1) := by decide +kernel
theorem dX7_parts_15 : decode cX7_parts 15 = .ok (.iload_n 1, 1) := by decide +kernel
theorem dX7_parts_16 : decode cX7_parts 16 = .ok (.putfield 7, 3) := by decide +kernel
theorem dX7_parts_19 : decode cX7_parts 19 = .ok (.iconst 0, 1) := by decide +kernel
theorem dX7_parts_20 : decode cX7_parts 20 = .ok (.istore_n 2, 1) := by decide +kernel
theorem dX7_parts_21 : decode cX7_parts 21 = .ok (.iload_n 2, 1) := by decide +kernel
theorem dX7_parts_22 : decode cX7_parts 22 = .ok (.bipush 9, 2) := by decide +kernel
theorem dX7_parts_24 : decode cX7_parts 24 = .ok (.if_icmp .ge 37, 3) := by decide +kernel
theorem dX7_parts_27 : decode cX7_parts 27 = .ok (.aload_n 0, 1) := by decide +kernel
theorem dX7_parts_28 : decode cX7_parts 28 = .ok (.getfield 13, 3) := by decide +kernel
theorem dX7_parts_31 : decode cX7_parts 31 = .ok (.iload_n 2, 1) := by decide +kernel
theorem dX7_parts_32 : decode cX7_parts 32 = .ok (.iconst 1, 1) := by decide +kernel
theorem dX7_parts_33 : decode cX7_parts 33 = .ok (.iastore, 1) := by decide +kernel
theorem dX7_parts_34 : decode cX7_parts 34 = .ok (.aload_n 0, 1) := by decide +kernel
theorem dX7_parts_35 : decode cX7_parts 35 = .ok (.getfield 17, 3) := by decide +kernel
theorem dX7_parts_38 : decode cX7_parts 38 = .ok (.iload_n 2, 1) := by decide +kernel
theorem dX7_parts_39 : decode cX7_parts 39 = .ok (.iconst 1, 1) := by decide +kernel
theorem dX7_parts_40 : decode cX7_parts 40 = .ok (.iastore, 1) := by decide +kernel
theorem dX7_parts_41 : decode cX7_parts 41 = .ok (.aload_n 0, 1) := by decide +kernel
theorem dX7_parts_42 : decode cX7_parts 42 = .ok (.getfield 20, 3) := by decide +kernel
theorem dX7_parts_45 : decode cX7_parts 45 = .ok (.iload_n 2, 1) := by decide +kernel
theorem dX7_parts_46 : decode cX7_parts 46 = .ok (.iconst 1, 1) := by decide +kernel
theorem dX7_parts_47 : decode cX7_parts 47 = .ok (.iastore, 1) := by decide +kernel
theorem dX7_parts_48 : decode cX7_parts 48 = .ok (.aload_n 0, 1) := by decide +kernel
theorem dX7_parts_49 : decode cX7_parts 49 = .ok (.getfield 30, 3) := by decide +kernel
theorem dX7_parts_52 : decode cX7_parts 52 = .ok (.iload_n 2, 1) := by decide +kernel
theorem dX7_parts_53 : decode cX7_parts 53 = .ok (.iconst (-1), 1) := by decide +kernel
theorem dX7_parts_54 : decode cX7_parts 54 = .ok (.iastore, 1) := by decide +kernel
theorem dX7_parts_55 : decode cX7_parts 55 = .ok (.iinc 2 1, 3) := by decide +kernel
theorem dX7_parts_58 : decode cX7_parts 58 = .ok (.goto (-37), 3) := by decide +kernel
theorem dX7_parts_61 : decode cX7_parts 61 = .ok (.aload_n 0, 1) := by decide +kernel
theorem dX7_parts_62 : decode cX7_parts 62 = .ok (.iconst 0, 1) := by decide +kernel
theorem dX7_parts_63 : decode cX7_parts 63 = .ok (.putfield 59, 3) := by decide +kernel
theorem dX7_parts_66 : decode cX7_parts 66 = .ok (.aload_n 0, 1) := by decide +kernel
theorem dX7_parts_67 : decode cX7_parts 67 = .ok (.iconst (-1), 1) := by decide +kernel
theorem dX7_parts_68 : decode cX7_parts 68 = .ok (.putfield 27, 3) := by decide +kernel
theorem dX7_parts_71 : decode cX7_parts 71 = .ok (.aload_n 0, 1) := by decide +kernel
theorem dX7_parts_72 : decode cX7_parts 72 = .ok (.iconst 0, 1) := by decide +kernel
theorem dX7_parts_73 : decode cX7_parts 73 = .ok (.putfield 64, 3) := by decide +kernel
theorem dX7_parts_76 : decode cX7_parts 76 = .ok (.aload_n 0, 1) := by decide +kernel
theorem dX7_parts_77 : decode cX7_parts 77 = .ok (.iconst 0, 1) := by decide +kernel
theorem dX7_parts_78 : decode cX7_parts 78 = .ok (.putfield 67, 3) := by decide +kernel
theorem dX7_parts_81 : decode cX7_parts 81 = .ok (.iconst 1, 1) := by decide +kernel
theorem dX7_parts_82 : decode cX7_parts 82 = .ok (.ireturn, 1) := by decide +kernel
set_option maxRecDepth 20000 in
theorem ggX7_part_X7_isPart : GoodIn wsX7_part wsX7_isPart := goodIn_r _ [10, 11, 12, 13, 9, 14, 15, 16, 17, 18, 19, 20, 21, 22, 23, 24, 25, 26, 27, 28, 29, 30, 31] rfl (by decide +kernel)
set_option maxRecDepth 20000 in
theorem gX7_part_X7_isPart : GoodIn wsX7_part (wsV RX7 70 RX7 yX7_isPart wsX7_isPart) := goodIn_app (goodIn_of _ (by decide +kernel)) ggX7_part_X7_isPart
set_option maxRecDepth 20000 in
theorem ggX7_part_X7_in : GoodIn wsX7_part wsX7_in := goodIn_r _ [14] rfl (by decide +kernel)
set_option maxRecDepth 20000 in
theorem gX7_part_X7_in : GoodIn wsX7_part (va_wsS RX7 55 yX7_in wsX7_in) := goodIn_app (goodIn_of _ (by decide +kernel)) ggX7_part_X7_in
theorem dX7_part_0 : decode cX7_part 0 = .ok (.aload_n 0, 1) := by decide +kernel
theorem dX7_part_1 : decode cX7_part 1 = .ok (.iload_n 1, 1) := by decide +kernel
theorem dX7_part_2 : decode cX7_part 2 = .ok (.invokevirtual 70, 3) := by decide +kernel
theorem dX7_part_5 : decode cX7_part 5 = .ok (.ifCond .eq 40, 3) := by decide +kernel
theorem dX7_part_8 : decode cX7_part 8 = .ok (.iload_n 2, 1) := by decide +kernel
theorem dX7_part_9 : decode cX7_part 9 = .ok (.i2l, 1) := by decide +kernel
theorem dX7_part_10 : decode cX7_part 10 = .ok (.lconst 1, 1) := by decide +kernel
theorem dX7_part_11 : decode cX7_part 11 = .ok (.ldc2_w 62, 3) := by decide +kernel
theorem dX7_part_14 : decode cX7_part 14 = .ok (.invokestatic 55, 3) := by decide +kernel
theorem dX7_part_17 : decode cX7_part 17 = .ok (.ifCond .eq 28, 3) := by decide +kernel
theorem dX7_part_20 : decode cX7_part 20 = .ok (.iload_n 3, 1) := by decide +kernel
theorem dX7_part_21 : decode cX7_part 21 = .ok (.i2l, 1) := by decide +kernel
theorem dX7_part_22 : decode cX7_part 22 = .ok (.lconst 1, 1) := by decide +kernel
theorem dX7_part_23 : decode cX7_part 23 = .ok (.ldc2_w 62, 3) := by decide +kernel
theorem dX7_part_26 : decode cX7_part 26 = .ok (.invokestatic 55, 3) := by decide +kernel
theorem dX7_part_29 : decode cX7_part 29 = .ok (.ifCond .eq 16, 3) := by decide +kernel
theorem dX7_part_32 : decode cX7_part 32 = .ok (.iload 4, 2) := by decide +kernel
theorem dX7_part_34 : decode cX7_part 34 = .ok (.i2l, 1) := by decide +kernel
theorem dX7_part_35 : decode cX7_part 35 = .ok (.lconst 0, 1) := by decide +kernel
theorem dX7_part_36 : decode cX7_part 36 = .ok (.ldc2_w 74, 3) := by decide +kernel
theorem dX7_part_39 : decode cX7_part 39 = .ok (.invokestatic 55, 3) := by decide +kernel
theorem dX7_part_42 : decode cX7_part 42 = .ok (.ifCond .ne 5, 3) := by decide +kernel
theorem dX7_part_45 : decode cX7_part 45 = .ok (.iconst 0, 1) := by decide +kernel
theorem dX7_part_46 : decode cX7_part 46 = .ok (.ireturn, 1) := by decide +kernel
theorem dX7_part_47 : decode cX7_part 47 = .ok (.aload_n 0, 1) := by decide +kernel
theorem dX7_part_48 : decode cX7_part 48 = .ok (.getfield 13, 3) := by decide +kernel
theorem dX7_part_51 : decode cX7_part 51 = .ok (.iload_n 1, 1) := by decide +kernel
theorem dX7_part_52 : decode cX7_part 52 = .ok (.iload_n 2, 1) := by decide +kernel
theorem dX7_part_53 : decode cX7_part 53 = .ok (.iastore, 1) := by decide +kernel
theorem dX7_part_54 : decode cX7_part 54 = .ok (.aload_n 0, 1) := by decide +kernel
theorem dX7_part_55 : decode cX7_part 55 = .ok (.getfield 17, 3) := by decide +kernel
theorem dX7_part_58 : decode cX7_part 58 = .ok (.iload_n 1, 1) := by decide +kernel
theorem dX7_part_59 : decode cX7_part 59 = .ok (.iload_n 3, 1) := by decide +kernel
theorem dX7_part_60 : decode cX7_part 60 = .ok (.iastore, 1) := by decide +kernel
theorem dX7_part_61 : decode cX7_part 61 = .ok (.aload_n 0, 1) := by decide +kernel
theorem dX7_part_62 : decode cX7_part 62 = .ok (.getfield 20, 3) := by decide +kernel
theorem dX7_part_65 : decode cX7_part 65 = .ok (.iload_n 1, 1) := by decide +kernel
theorem dX7_part_66 : decode cX7_part 66 = .ok (.iload 4, 2) := by decide +kernel
theorem dX7_part_68 : decode cX7_part 68 = .ok (.iastore, 1) := by decide +kernel
theorem dX7_part_69 : decode cX7_part 69 = .ok (.iconst 1, 1) := by decide +kernel
theorem dX7_part_70 : decode cX7_part 70 = .ok (.ireturn, 1) := by decide +kernel
theorem dX7_added_0 : decode cX7_added 0 = .ok (.aload_n 0, 1) := by decide +kernel
theorem dX7_added_1 : decode cX7_added 1 = .ok (.dup, 1) := by decide +kernel
theorem dX7_added_2 : decode cX7_added 2 = .ok (.getfield 59, 3) := by decide +kernel
theorem dX7_added_5 : decode cX7_added 5 = .ok (.iconst 1, 1) := by decide +kernel
theorem dX7_added_6 : decode cX7_added 6 = .ok (.iadd, 1) := by decide +kernel
theorem dX7_added_7 : decode cX7_added 7 = .ok (.putfield 59, 3) := by decide +kernel
theorem dX7_added_10 : decode cX7_added 10 = .ok (.aload_n 0, 1) := by decide +kernel
theorem dX7_added_11 : decode cX7_added 11 = .ok (.getfield 59, 3) := by decide +kernel
theorem dX7_added_14 : decode cX7_added 14 = .ok (.iconst 1, 1) := by decide +kernel
theorem dX7_added_15 : decode cX7_added 15 = .ok (.isub, 1) := by decide +kernel
theorem dX7_added_16 : decode cX7_added 16 = .ok (.ireturn, 1) := by decide +kernel
set_option maxRecDepth 20000 in
theorem ggX7_single_X7_isPart : GoodIn wsX7_single wsX7_isPart := goodIn_r _ [7, 8, 9, 10, 6, 11, 20, 21, 22, 23, 24, 25, 26, 27, 28, 29, 30, 31, 32, 33, 34, 35, 36] rfl (by decide +kernel)
set_option maxRecDepth 20000 in
theorem gX7_single_X7_isPart : GoodIn wsX7_single (wsV RX7 70 RX7 yX7_isPart wsX7_isPart) := goodIn_app (goodIn_of _ (by decide +kernel)) ggX7_single_X7_isPart
set_option maxRecDepth 20000 in
theorem ggX7_single_X7_settings : GoodIn wsX7_single wsX7_settings := goodIn_r _ [15, 8, 20, 21, 22, 23, 24, 25, 26, 27, 28, 29, 30, 31, 32, 33, 34, 35, 36] rfl (by decide +kernel)
set_option maxRecDepth 20000 in
theorem gX7_single_X7_settings : GoodIn wsX7_single (wsV RX7 76 RX7 yX7_settings wsX7_settings) := goodIn_app (goodIn_of _ (by decide +kernel)) ggX7_single_X7_settings
set_option maxRecDepth 20000 in
theorem ggX7_single_X7_added : GoodIn wsX7_single wsX7_added := goodIn_r _ [19, 1, 20, 21, 22, 23, 24, 25, 26, 27, 28, 29, 30, 31, 32, 33, 34, 35, 36] rfl (by decide +kernel)
set_option maxRecDepth 20000 in
theorem gX7_single_X7_added : GoodIn wsX7_single (wsV RX7 80 RX7 yX7_added wsX7_added) := goodIn_app (goodIn_of _ (by decide +kernel)) ggX7_single_X7_added
theorem dX7_single_0 : decode cX7_single 0 = .ok (.aload_n 0, 1) := by decide +kernel
theorem dX7_single_1 : decode cX7_single 1 = .ok (.iload_n 1, 1) := by decide +kernel
theorem dX7_single_2 : decode cX7_single 2 = .ok (.invokevirtual 70, 3) := by decide +kernel
theorem dX7_single_5 : decode cX7_single 5 = .ok (.ifCond .eq 12, 3) := by decide +kernel
theorem dX7_single_8 : decode cX7_single 8 = .ok (.aload_n 0, 1) := by decide +kernel
theorem dX7_single_9 : decode cX7_single 9 = .ok (.getfield 59, 3) := by decide +kernel
theorem dX7_single_12 : decode cX7_single 12 = .ok (.bipush 40, 2) := by decide +kernel
theorem dX7_single_14 : decode cX7_single 14 = .ok (.if_icmp .ne 5, 3) := by decide +kernel
theorem dX7_single_17 : decode cX7_single 17 = .ok (.iconst (-1), 1) := by decide +kernel
theorem dX7_single_18 : decode cX7_single 18 = .ok (.ireturn, 1) := by decide +kernel
theorem dX7_single_19 : decode cX7_single 19 = .ok (.iconst 0, 1) := by decide +kernel
theorem dX7_single_20 : decode cX7_single 20 = .ok (.istore_n 2, 1) := by decide +kernel
theorem dX7_single_21 : decode cX7_single 21 = .ok (.iload_n 2, 1) := by decide +kernel
theorem dX7_single_22 : decode cX7_single 22 = .ok (.aload_n 0, 1) := by decide +kernel
theorem dX7_single_23 : decode cX7_single 23 = .ok (.invokevirtual 76, 3) := by decide +kernel
theorem dX7_single_26 : decode cX7_single 26 = .ok (.if_icmp .ge 38, 3) := by decide +kernel
theorem dX7_single_29 : decode cX7_single 29 = .ok (.aload_n 0, 1) := by decide +kernel
theorem dX7_single_30 : decode cX7_single 30 = .ok (.getfield 23, 3) := by decide +kernel
theorem dX7_single_33 : decode cX7_single 33 = .ok (.sipush 512, 3) := by decide +kernel
theorem dX7_single_36 : decode cX7_single 36 = .ok (.aload_n 0, 1) := by decide +kernel
theorem dX7_single_37 : decode cX7_single 37 = .ok (.getfield 59, 3) := by decide +kernel
theorem dX7_single_40 : decode cX7_single 40 = .ok (.imul, 1) := by decide +kernel
theorem dX7_single_41 : decode cX7_single 41 = .ok (.iload_n 2, 1) := by decide +kernel
theorem dX7_single_42 : decode cX7_single 42 = .ok (.iadd, 1) := by decide +kernel
theorem dX7_single_43 : decode cX7_single 43 = .ok (.iload_n 2, 1) := by decide +kernel
theorem dX7_single_44 : decode cX7_single 44 = .ok (.iload_n 1, 1) := by decide +kernel
theorem dX7_single_45 : decode cX7_single 45 = .ok (.ishr, 1) := by decide +kernel
theorem dX7_single_46 : decode cX7_single 46 = .ok (.iconst 1, 1) := by decide +kernel
theorem dX7_single_47 : decode cX7_single 47 = .ok (.iand, 1) := by decide +kernel
theorem dX7_single_48 : decode cX7_single 48 = .ok (.iconst 1, 1) := by decide +kernel
theorem dX7_single_49 : decode cX7_single 49 = .ok (.if_icmp .ne 7, 3) := by decide +kernel
theorem dX7_single_52 : decode cX7_single 52 = .ok (.iconst 1, 1) := by decide +kernel
theorem dX7_single_53 : decode cX7_single 53 = .ok (.goto 4, 3) := by decide +kernel
theorem dX7_single_56 : decode cX7_single 56 = .ok (.iconst 0, 1) := by decide +kernel
theorem dX7_single_57 : decode cX7_single 57 = .ok (.bastore, 1) := by decide +kernel
theorem dX7_single_58 : decode cX7_single 58 = .ok (.iinc 2 1, 3) := by decide +kernel
theorem dX7_single_61 : decode cX7_single 61 = .ok (.goto (-40), 3) := by decide +kernel
theorem dX7_single_64 : decode cX7_single 64 = .ok (.aload_n 0, 1) := by decide +kernel
theorem dX7_single_65 : decode cX7_single 65 = .ok (.invokevirtual 80, 3) := by decide +kernel
theorem dX7_single_68 : decode cX7_single 68 = .ok (.ireturn, 1) := by decide +kernel
set_option maxRecDepth 20000 in
theorem ggX7_row_X7_isRule : GoodIn wsX7_row wsX7_isRule := goodIn_r _ [7, 1, 8, 9, 6, 10, 20, 21, 22, 23, 24, 25, 26, 27, 28, 29, 30, 31, 32, 33, 34, 35, 36] rfl (by decide +kernel)
set_option maxRecDepth 20000 in
theorem gX7_row_X7_isRule : GoodIn wsX7_row (wsV RX7 83 RX7 yX7_isRule wsX7_isRule) := goodIn_app (goodIn_of _ (by decide +kernel)) ggX7_row_X7_isRule
set_option maxRecDepth 20000 in
theorem ggX7_row_X7_settings : GoodIn wsX7_row wsX7_settings := goodIn_r _ [14, 15, 20, 21, 22, 23, 24, 25, 26, 27, 28, 29, 30, 31, 32, 33, 34, 35, 36] rfl (by decide +kernel)
set_option maxRecDepth 20000 in
theorem gX7_row_X7_settings : GoodIn wsX7_row (wsV RX7 76 RX7 yX7_settings wsX7_settings) := goodIn_app (goodIn_of _ (by decide +kernel)) ggX7_row_X7_settings
set_option maxRecDepth 20000 in
theorem ggX7_row_X7_added : GoodIn wsX7_row wsX7_added := goodIn_r _ [19, 1, 20, 21, 22, 23, 24, 25, 26, 27, 28, 29, 30, 31, 32, 33, 34, 35, 36] rfl (by decide +kernel)
set_option maxRecDepth 20000 in
theorem gX7_row_X7_added : GoodIn wsX7_row (wsV RX7 80 RX7 yX7_added wsX7_added) := goodIn_app (goodIn_of _ (by decide +kernel)) ggX7_row_X7_added
theorem dX7_row_0 : decode cX7_row 0 = .ok (.aload_n 0, 1) := by decide +kernel
theorem dX7_row_1 : decode cX7_row 1 = .ok (.iload_n 1, 1) := by decide +kernel
theorem dX7_row_2 : decode cX7_row 2 = .ok (.invokevirtual 83, 3) := by decide +kernel
theorem dX7_row_5 : decode cX7_row 5 = .ok (.ifCond .eq 20, 3) := by decide +kernel
theorem dX7_row_8 : decode cX7_row 8 = .ok (.aload_n 0, 1) := by decide +kernel
theorem dX7_row_9 : decode cX7_row 9 = .ok (.iload_n 2, 1) := by decide +kernel
theorem dX7_row_10 : decode cX7_row 10 = .ok (.invokevirtual 83, 3) := by decide +kernel
theorem dX7_row_13 : decode cX7_row 13 = .ok (.ifCond .eq 12, 3) := by decide +kernel
theorem dX7_row_16 : decode cX7_row 16 = .ok (.aload_n 0, 1) := by decide +kernel
theorem dX7_row_17 : decode cX7_row 17 = .ok (.getfield 59, 3) := by decide +kernel
theorem dX7_row_20 : decode cX7_row 20 = .ok (.bipush 40, 2) := by decide +kernel
theorem dX7_row_22 : decode cX7_row 22 = .ok (.if_icmp .ne 5, 3) := by decide +kernel
theorem dX7_row_25 : decode cX7_row 25 = .ok (.iconst (-1), 1) := by decide +kernel
theorem dX7_row_26 : decode cX7_row 26 = .ok (.ireturn, 1) := by decide +kernel
theorem dX7_row_27 : decode cX7_row 27 = .ok (.iconst 0, 1) := by decide +kernel
theorem dX7_row_28 : decode cX7_row 28 = .ok (.istore_n 3, 1) := by decide +kernel
theorem dX7_row_29 : decode cX7_row 29 = .ok (.iload_n 3, 1) := by decide +kernel
theorem dX7_row_30 : decode cX7_row 30 = .ok (.aload_n 0, 1) := by decide +kernel
theorem dX7_row_31 : decode cX7_row 31 = .ok (.invokevirtual 76, 3) := by decide +kernel
theorem dX7_row_34 : decode cX7_row 34 = .ok (.if_icmp .ge 59, 3) := by decide +kernel
theorem dX7_row_37 : decode cX7_row 37 = .ok (.aload_n 0, 1) := by decide +kernel
theorem dX7_row_38 : decode cX7_row 38 = .ok (.getfield 23, 3) := by decide +kernel
theorem dX7_row_41 : decode cX7_row 41 = .ok (.sipush 512, 3) := by decide +kernel
theorem dX7_row_44 : decode cX7_row 44 = .ok (.aload_n 0, 1) := by decide +kernel
theorem dX7_row_45 : decode cX7_row 45 = .ok (.getfield 59, 3) := by decide +kernel
theorem dX7_row_48 : decode cX7_row 48 = .ok (.imul, 1) := by decide +kernel
theorem dX7_row_49 : decode cX7_row 49 = .ok (.iload_n 3, 1) := by decide +kernel
theorem dX7_row_50 : decode cX7_row 50 = .ok (.iadd, 1) := by decide +kernel
theorem dX7_row_51 : decode cX7_row 51 = .ok (.aload_n 0, 1) := by decide +kernel
theorem dX7_row_52 : decode cX7_row 52 = .ok (.getfield 23, 3) := by decide +kernel
theorem dX7_row_55 : decode cX7_row 55 = .ok (.sipush 512, 3) := by decide +kernel
theorem dX7_row_58 : decode cX7_row 58 = .ok (.iload_n 1, 1) := by decide +kernel
theorem dX7_row_59 : decode cX7_row 59 = .ok (.imul, 1) := by decide +kernel
theorem dX7_row_60 : decode cX7_row 60 = .ok (.iload_n 3, 1) := by decide +kernel
theorem dX7_row_61 : decode cX7_row 61 = .ok (.iadd, 1) := by decide +kernel
theorem dX7_row_62 : decode cX7_row 62 = .ok (.baload, 1) := by decide +kernel
theorem dX7_row_63 : decode cX7_row 63 = .ok (.ifCond .eq 22, 3) := by decide +kernel
theorem dX7_row_66 : decode cX7_row 66 = .ok (.aload_n 0, 1) := by decide +kernel
theorem dX7_row_67 : decode cX7_row 67 = .ok (.getfield 23, 3) := by decide +kernel
theorem dX7_row_70 : decode cX7_row 70 = .ok (.sipush 512, 3) := by decide +kernel
theorem dX7_row_73 : decode cX7_row 73 = .ok (.iload_n 2, 1) := by decide +kernel
theorem dX7_row_74 : decode cX7_row 74 = .ok (.imul, 1) := by decide +kernel
theorem dX7_row_75 : decode cX7_row 75 = .ok (.iload_n 3, 1) := by decide +kernel
theorem dX7_row_76 : decode cX7_row 76 = .ok (.iadd, 1) := by decide +kernel
theorem dX7_row_77 : decode cX7_row 77 = .ok (.baload, 1) := by decide +kernel
theorem dX7_row_78 : decode cX7_row 78 = .ok (.ifCond .eq 7, 3) := by decide +kernel
theorem dX7_row_81 : decode cX7_row 81 = .ok (.iconst 1, 1) := by decide +kernel
theorem dX7_row_82 : decode cX7_row 82 = .ok (.goto 4, 3) := by decide +kernel
theorem dX7_row_85 : decode cX7_row 85 = .ok (.iconst 0, 1) := by decide +kernel
theorem dX7_row_86 : decode cX7_row 86 = .ok (.bastore, 1) := by decide +kernel
theorem dX7_row_87 : decode cX7_row 87 = .ok (.iinc 3 1, 3) := by decide +kernel
theorem dX7_row_90 : decode cX7_row 90 = .ok (.goto (-61), 3) := by decide +kernel
theorem dX7_row_93 : decode cX7_row 93 = .ok (.aload_n 0, 1) := by decide +kernel
theorem dX7_row_94 : decode cX7_row 94 = .ok (.invokevirtual 80, 3) := by decide +kernel
theorem dX7_row_97 : decode cX7_row 97 = .ok (.ireturn, 1) := by decide +kernel
set_option maxRecDepth 20000 in
theorem ggX7_side_X7_isRule : GoodIn wsX7_side wsX7_isRule := goodIn_r _ [7, 1, 8, 9, 6, 10, 20, 21, 22, 23, 24, 25, 26, 27, 28, 29, 30, 31, 32, 33, 34, 35, 36] rfl (by decide +kernel)
set_option maxRecDepth 20000 in
theorem gX7_side_X7_isRule : GoodIn wsX7_side (wsV RX7 83 RX7 yX7_isRule wsX7_isRule) := goodIn_app (goodIn_of _ (by decide +kernel)) ggX7_side_X7_isRule
set_option maxRecDepth 20000 in
theorem ggX7_side_X7_settings : GoodIn wsX7_side wsX7_settings := goodIn_r _ [14, 15, 20, 21, 22, 23, 24, 25, 26, 27, 28, 29, 30, 31, 32, 33, 34, 35, 36] rfl (by decide +kernel)
set_option maxRecDepth 20000 in
theorem gX7_side_X7_settings : GoodIn wsX7_side (wsV RX7 76 RX7 yX7_settings wsX7_settings) := goodIn_app (goodIn_of _ (by decide +kernel)) ggX7_side_X7_settings
set_option maxRecDepth 20000 in
theorem ggX7_side_X7_added : GoodIn wsX7_side wsX7_added := goodIn_r _ [19, 1, 20, 21, 22, 23, 24, 25, 26, 27, 28, 29, 30, 31, 32, 33, 34, 35, 36] rfl (by decide +kernel)
set_option maxRecDepth 20000 in
theorem gX7_side_X7_added : GoodIn wsX7_side (wsV RX7 80 RX7 yX7_added wsX7_added) := goodIn_app (goodIn_of _ (by decide +kernel)) ggX7_side_X7_added
theorem dX7_side_0 : decode cX7_side 0 = .ok (.aload_n 0, 1) := by decide +kernel
theorem dX7_side_1 : decode cX7_side 1 = .ok (.iload_n 1, 1) := by decide +kernel
theorem dX7_side_2 : decode cX7_side 2 = .ok (.invokevirtual 83, 3) := by decide +kernel
theorem dX7_side_5 : decode cX7_side 5 = .ok (.ifCond .eq 20, 3) := by decide +kernel
theorem dX7_side_8 : decode cX7_side 8 = .ok (.aload_n 0, 1) := by decide +kernel
theorem dX7_side_9 : decode cX7_side 9 = .ok (.iload_n 2, 1) := by decide +kernel
theorem dX7_side_10 : decode cX7_side 10 = .ok (.invokevirtual 83, 3) := by decide +kernel
theorem dX7_side_13 : decode cX7_side 13 = .ok (.ifCond .eq 12, 3) := by decide +kernel
theorem dX7_side_16 : decode cX7_side 16 = .ok (.aload_n 0, 1) := by decide +kernel
theorem dX7_side_17 : decode cX7_side 17 = .ok (.getfield 59, 3) := by decide +kernel
theorem dX7_side_20 : decode cX7_side 20 = .ok (.bipush 40, 2) := by decide +kernel
theorem dX7_side_22 : decode cX7_side 22 = .ok (.if_icmp .ne 5, 3) := by decide +kernel
theorem dX7_side_25 : decode cX7_side 25 = .ok (.iconst (-1), 1) := by decide +kernel
theorem dX7_side_26 : decode cX7_side 26 = .ok (.ireturn, 1) := by decide +kernel
theorem dX7_side_27 : decode cX7_side 27 = .ok (.iconst 0, 1) := by decide +kernel
theorem dX7_side_28 : decode cX7_side 28 = .ok (.istore_n 3, 1) := by decide +kernel
theorem dX7_side_29 : decode cX7_side 29 = .ok (.iload_n 3, 1) := by decide +kernel
theorem dX7_side_30 : decode cX7_side 30 = .ok (.aload_n 0, 1) := by decide +kernel
theorem dX7_side_31 : decode cX7_side 31 = .ok (.invokevirtual 76, 3) := by decide +kernel
theorem dX7_side_34 : decode cX7_side 34 = .ok (.if_icmp .ge 59, 3) := by decide +kernel
theorem dX7_side_37 : decode cX7_side 37 = .ok (.aload_n 0, 1) := by decide +kernel
theorem dX7_side_38 : decode cX7_side 38 = .ok (.getfield 23, 3) := by decide +kernel
theorem dX7_side_41 : decode cX7_side 41 = .ok (.sipush 512, 3) := by decide +kernel
theorem dX7_side_44 : decode cX7_side 44 = .ok (.aload_n 0, 1) := by decide +kernel
theorem dX7_side_45 : decode cX7_side 45 = .ok (.getfield 59, 3) := by decide +kernel
theorem dX7_side_48 : decode cX7_side 48 = .ok (.imul, 1) := by decide +kernel
theorem dX7_side_49 : decode cX7_side 49 = .ok (.iload_n 3, 1) := by decide +kernel
theorem dX7_side_50 : decode cX7_side 50 = .ok (.iadd, 1) := by decide +kernel
theorem dX7_side_51 : decode cX7_side 51 = .ok (.aload_n 0, 1) := by decide +kernel
theorem dX7_side_52 : decode cX7_side 52 = .ok (.getfield 23, 3) := by decide +kernel
theorem dX7_side_55 : decode cX7_side 55 = .ok (.sipush 512, 3) := by decide +kernel
theorem dX7_side_58 : decode cX7_side 58 = .ok (.iload_n 1, 1) := by decide +kernel
theorem dX7_side_59 : decode cX7_side 59 = .ok (.imul, 1) := by decide +kernel
theorem dX7_side_60 : decode cX7_side 60 = .ok (.iload_n 3, 1) := by decide +kernel
theorem dX7_side_61 : decode cX7_side 61 = .ok (.iadd, 1) := by decide +kernel
theorem dX7_side_62 : decode cX7_side 62 = .ok (.baload, 1) := by decide +kernel
theorem dX7_side_63 : decode cX7_side 63 = .ok (.ifCond .ne 18, 3) := by decide +kernel
theorem dX7_side_66 : decode cX7_side 66 = .ok (.aload_n 0, 1) := by decide +kernel
theorem dX7_side_67 : decode cX7_side 67 = .ok (.getfield 23, 3) := by decide +kernel
theorem dX7_side_70 : decode cX7_side 70 = .ok (.sipush 512, 3) := by decide +kernel
theorem dX7_side_73 : decode cX7_side 73 = .ok (.iload_n 2, 1) := by decide +kernel
theorem dX7_side_74 : decode cX7_side 74 = .ok (.imul, 1) := by decide +kernel
theorem dX7_side_75 : decode cX7_side 75 = .ok (.iload_n 3, 1) := by decide +kernel
theorem dX7_side_76 : decode cX7_side 76 = .ok (.iadd, 1) := by decide +kernel
theorem dX7_side_77 : decode cX7_side 77 = .ok (.baload, 1) := by decide +kernel
theorem dX7_side_78 : decode cX7_side 78 = .ok (.ifCond .eq 7, 3) := by decide +kernel
theorem dX7_side_81 : decode cX7_side 81 = .ok (.iconst 1, 1) := by decide +kernel
theorem dX7_side_82 : decode cX7_side 82 = .ok (.goto 4, 3) := by decide +kernel
theorem dX7_side_85 : decode cX7_side 85 = .ok (.iconst 0, 1) := by decide +kernel
theorem dX7_side_86 : decode cX7_side 86 = .ok (.bastore, 1) := by decide +kernel
theorem dX7_side_87 : decode cX7_side 87 = .ok (.iinc 3 1, 3) := by decide +kernel
theorem dX7_side_90 : decode cX7_side 90 = .ok (.goto (-61), 3) := by decide +kernel
theorem dX7_side_93 : decode cX7_side 93 = .ok (.aload_n 0, 1) := by decide +kernel
theorem dX7_side_94 : decode cX7_side 94 = .ok (.invokevirtual 80, 3) := by decide +kernel
theorem dX7_side_97 : decode cX7_side 97 = .ok (.ireturn, 1) := by decide +kernel
set_option maxRecDepth 20000 in
theorem ggX7_some_X7_settings : GoodIn wsX7_some wsX7_settings := goodIn_r _ [10, 4, 18, 19, 20, 21, 22, 23, 24, 25, 26, 27, 28, 29, 30, 31, 32, 33, 34] rfl (by decide +kernel)
set_option maxRecDepth 20000 in
theorem gX7_some_X7_settings : GoodIn wsX7_some (wsV RX7 76 RX7 yX7_settings wsX7_settings) := goodIn_app (goodIn_of _ (by decide +kernel)) ggX7_some_X7_settings
set_option maxRecDepth 20000 in
theorem ggX7_some_X7_in : GoodIn wsX7_some wsX7_in := goodIn_r _ [13] rfl (by decide +kernel)
set_option maxRecDepth 20000 in
theorem gX7_some_X7_in : GoodIn wsX7_some (va_wsS RX7 55 yX7_in wsX7_in) := goodIn_app (goodIn_of _ (by decide +kernel)) ggX7_some_X7_in
set_option maxRecDepth 20000 in
theorem ggX7_some_X7_added : GoodIn wsX7_some wsX7_added := goodIn_r _ [17, 3, 18, 19, 20, 21, 22, 23, 24, 25, 26, 27, 28, 29, 30, 31, 32, 33, 34] rfl (by decide +kernel)
set_option maxRecDepth 20000 in
theorem gX7_some_X7_added : GoodIn wsX7_some (wsV RX7 80 RX7 yX7_added wsX7_added) := goodIn_app (goodIn_of _ (by decide +kernel)) ggX7_some_X7_added
theorem dX7_some_0 : decode cX7_some 0 = .ok (.iload_n 1, 1) := by decide +kernel
theorem dX7_some_1 : decode cX7_some 1 = .ok (.i2l, 1) := by decide +kernel
theorem dX7_some_2 : decode cX7_some 2 = .ok (.lconst 0, 1) := by decide +kernel
theorem dX7_some_3 : decode cX7_some 3 = .ok (.aload_n 0, 1) := by decide +kernel
theorem dX7_some_4 : decode cX7_some 4 = .ok (.invokevirtual 76, 3) := by decide +kernel
theorem dX7_some_7 : decode cX7_some 7 = .ok (.iconst 1, 1) := by decide +kernel
theorem dX7_some_8 : decode cX7_some 8 = .ok (.isub, 1) := by decide +kernel
theorem dX7_some_9 : decode cX7_some 9 = .ok (.i2l, 1) := by decide +kernel
theorem dX7_some_10 : decode cX7_some 10 = .ok (.invokestatic 55, 3) := by decide +kernel
theorem dX7_some_13 : decode cX7_some 13 = .ok (.ifCond .eq 44, 3) := by decide +kernel
theorem dX7_some_16 : decode cX7_some 16 = .ok (.iload 4, 2) := by decide +kernel
theorem dX7_some_18 : decode cX7_some 18 = .ok (.i2l, 1) := by decide +kernel
theorem dX7_some_19 : decode cX7_some 19 = .ok (.lconst 0, 1) := by decide +kernel
theorem dX7_some_20 : decode cX7_some 20 = .ok (.ldc2_w 86, 3) := by decide +kernel
theorem dX7_some_23 : decode cX7_some 23 = .ok (.invokestatic 55, 3) := by decide +kernel
theorem dX7_some_26 : decode cX7_some 26 = .ok (.ifCond .eq 31, 3) := by decide +kernel
theorem dX7_some_29 : decode cX7_some 29 = .ok (.iload 5, 2) := by decide +kernel
theorem dX7_some_31 : decode cX7_some 31 = .ok (.i2l, 1) := by decide +kernel
theorem dX7_some_32 : decode cX7_some 32 = .ok (.lconst 0, 1) := by decide +kernel
theorem dX7_some_33 : decode cX7_some 33 = .ok (.ldc2_w 88, 3) := by decide +kernel
theorem dX7_some_36 : decode cX7_some 36 = .ok (.invokestatic 55, 3) := by decide +kernel
theorem dX7_some_39 : decode cX7_some 39 = .ok (.ifCond .eq 18, 3) := by decide +kernel
theorem dX7_some_42 : decode cX7_some 42 = .ok (.lload_n 2, 1) := by decide +kernel
theorem dX7_some_43 : decode cX7_some 43 = .ok (.lconst 0, 1) := by decide +kernel
theorem dX7_some_44 : decode cX7_some 44 = .ok (.lcmp, 1) := by decide +kernel
theorem dX7_some_45 : decode cX7_some 45 = .ok (.ifCond .lt 12, 3) := by decide +kernel
theorem dX7_some_48 : decode cX7_some 48 = .ok (.aload_n 0, 1) := by decide +kernel
theorem dX7_some_49 : decode cX7_some 49 = .ok (.getfield 59, 3) := by decide +kernel
theorem dX7_some_52 : decode cX7_some 52 = .ok (.bipush 40, 2) := by decide +kernel
theorem dX7_some_54 : decode cX7_some 54 = .ok (.if_icmp .ne 5, 3) := by decide +kernel
theorem dX7_some_57 : decode cX7_some 57 = .ok (.iconst (-1), 1) := by decide +kernel
theorem dX7_some_58 : decode cX7_some 58 = .ok (.ireturn, 1) := by decide +kernel
theorem dX7_some_59 : decode cX7_some 59 = .ok (.iconst 0, 1) := by decide +kernel
theorem dX7_some_60 : decode cX7_some 60 = .ok (.istore 6, 2) := by decide +kernel
theorem dX7_some_62 : decode cX7_some 62 = .ok (.iload 6, 2) := by decide +kernel
theorem dX7_some_64 : decode cX7_some 64 = .ok (.aload_n 0, 1) := by decide +kernel
theorem dX7_some_65 : decode cX7_some 65 = .ok (.invokevirtual 76, 3) := by decide +kernel
theorem dX7_some_68 : decode cX7_some 68 = .ok (.if_icmp .ge 125, 3) := by decide +kernel
theorem dX7_some_71 : decode cX7_some 71 = .ok (.iconst 0, 1) := by decide +kernel
theorem dX7_some_72 : decode cX7_some 72 = .ok (.istore 7, 2) := by decide +kernel
theorem dX7_some_74 : decode cX7_some 74 = .ok (.iconst 0, 1) := by decide +kernel
theorem dX7_some_75 : decode cX7_some 75 = .ok (.istore 8, 2) := by decide +kernel
theorem dX7_some_77 : decode cX7_some 77 = .ok (.iconst 0, 1) := by decide +kernel
theorem dX7_some_78 : decode cX7_some 78 = .ok (.istore 9, 2) := by decide +kernel
theorem dX7_some_80 : decode cX7_some 80 = .ok (.iload 9, 2) := by decide +kernel
theorem dX7_some_82 : decode cX7_some 82 = .ok (.aload_n 0, 1) := by decide +kernel
theorem dX7_some_83 : decode cX7_some 83 = .ok (.getfield 7, 3) := by decide +kernel
theorem dX7_some_86 : decode cX7_some 86 = .ok (.if_icmp .ge 73, 3) := by decide +kernel
theorem dX7_some_89 : decode cX7_some 89 = .ok (.iload_n 1, 1) := by decide +kernel
theorem dX7_some_90 : decode cX7_some 90 = .ok (.iload 9, 2) := by decide +kernel
theorem dX7_some_92 : decode cX7_some 92 = .ok (.ishr, 1) := by decide +kernel
theorem dX7_some_93 : decode cX7_some 93 = .ok (.iconst 1, 1) := by decide +kernel
theorem dX7_some_94 : decode cX7_some 94 = .ok (.iand, 1) := by decide +kernel
theorem dX7_some_95 : decode cX7_some 95 = .ok (.ifCond .ne 6, 3) := by decide +kernel
theorem dX7_some_98 : decode cX7_some 98 = .ok (.goto 55, 3) := by decide +kernel
theorem dX7_some_101 : decode cX7_some 101 = .ok (.iload 4, 2) := by decide +kernel
theorem dX7_some_103 : decode cX7_some 103 = .ok (.ifCond .ne 7, 3) := by decide +kernel
theorem dX7_some_106 : decode cX7_some 106 = .ok (.iconst 1, 1) := by decide +kernel
theorem dX7_some_107 : decode cX7_some 107 = .ok (.goto 15, 3) := by decide +kernel
theorem dX7_some_110 : decode cX7_some 110 = .ok (.lload_n 2, 1) := by decide +kernel
theorem dX7_some_111 : decode cX7_some 111 = .ok (.iload 8, 2) := by decide +kernel
theorem dX7_some_113 : decode cX7_some 113 = .ok (.lshr, 1) := by decide +kernel
theorem dX7_some_114 : decode cX7_some 114 = .ok (.lconst 1, 1) := by decide +kernel
theorem dX7_some_115 : decode cX7_some 115 = .ok (.iload 4, 2) := by decide +kernel
theorem dX7_some_117 : decode cX7_some 117 = .ok (.lshl, 1) := by decide +kernel
theorem dX7_some_118 : decode cX7_some 118 = .ok (.lconst 1, 1) := by decide +kernel
theorem dX7_some_119 : decode cX7_some 119 = .ok (.lsub, 1) := by decide +kernel
theorem dX7_some_120 : decode cX7_some 120 = .ok (.land, 1) := by decide +kernel
theorem dX7_some_121 : decode cX7_some 121 = .ok (.l2i, 1) := by decide +kernel
theorem dX7_some_122 : decode cX7_some 122 = .ok (.istore 10, 2) := by decide +kernel
theorem dX7_some_124 : decode cX7_some 124 = .ok (.iload 8, 2) := by decide +kernel
theorem dX7_some_126 : decode cX7_some 126 = .ok (.iload 4, 2) := by decide +kernel
theorem dX7_some_128 : decode cX7_some 128 = .ok (.iadd, 1) := by decide +kernel
theorem dX7_some_129 : decode cX7_some 129 = .ok (.istore 8, 2) := by decide +kernel
theorem dX7_some_131 : decode cX7_some 131 = .ok (.iload 7, 2) := by decide +kernel
theorem dX7_some_133 : decode cX7_some 133 = .ok (.iload 6, 2) := by decide +kernel
theorem dX7_some_135 : decode cX7_some 135 = .ok (.iload 9, 2) := by decide +kernel
theorem dX7_some_137 : decode cX7_some 137 = .ok (.ishr, 1) := by decide +kernel
theorem dX7_some_138 : decode cX7_some 138 = .ok (.iconst 1, 1) := by decide +kernel
theorem dX7_some_139 : decode cX7_some 139 = .ok (.iand, 1) := by decide +kernel
theorem dX7_some_140 : decode cX7_some 140 = .ok (.iconst 1, 1) := by decide +kernel
theorem dX7_some_141 : decode cX7_some 141 = .ok (.if_icmp .ne 8, 3) := by decide +kernel
theorem dX7_some_144 : decode cX7_some 144 = .ok (.iload 10, 2) := by decide +kernel
theorem dX7_some_146 : decode cX7_some 146 = .ok (.goto 4, 3) := by decide +kernel
theorem dX7_some_149 : decode cX7_some 149 = .ok (.iconst 0, 1) := by decide +kernel
theorem dX7_some_150 : decode cX7_some 150 = .ok (.iadd, 1) := by decide +kernel
theorem dX7_some_151 : decode cX7_some 151 = .ok (.istore 7, 2) := by decide +kernel
theorem dX7_some_153 : decode cX7_some 153 = .ok (.iinc 9 1, 3) := by decide +kernel
theorem dX7_some_156 : decode cX7_some 156 = .ok (.goto (-76), 3) := by decide +kernel
theorem dX7_some_159 : decode cX7_some 159 = .ok (.aload_n 0, 1) := by decide +kernel
theorem dX7_some_160 : decode cX7_some 160 = .ok (.getfield 23, 3) := by decide +kernel
theorem dX7_some_163 : decode cX7_some 163 = .ok (.sipush 512, 3) := by decide +kernel
theorem dX7_some_166 : decode cX7_some 166 = .ok (.aload_n 0, 1) := by decide +kernel
theorem dX7_some_167 : decode cX7_some 167 = .ok (.getfield 59, 3) := by decide +kernel
theorem dX7_some_170 : decode cX7_some 170 = .ok (.imul, 1) := by decide +kernel
theorem dX7_some_171 : decode cX7_some 171 = .ok (.iload 6, 2) := by decide +kernel
theorem dX7_some_173 : decode cX7_some 173 = .ok (.iadd, 1) := by decide +kernel
theorem dX7_some_174 : decode cX7_some 174 = .ok (.iload 7, 2) := by decide +kernel
theorem dX7_some_176 : decode cX7_some 176 = .ok (.iload 5, 2) := by decide +kernel
theorem dX7_some_178 : decode cX7_some 178 = .ok (.if_icmp .lt 7, 3) := by decide +kernel
theorem dX7_some_181 : decode cX7_some 181 = .ok (.iconst 1, 1) := by decide +kernel
theorem dX7_some_182 : decode cX7_some 182 = .ok (.goto 4, 3) := by decide +kernel
theorem dX7_some_185 : decode cX7_some 185 = .ok (.iconst 0, 1) := by decide +kernel
theorem dX7_some_186 : decode cX7_some 186 = .ok (.bastore, 1) := by decide +kernel
theorem dX7_some_187 : decode cX7_some 187 = .ok (.iinc 6 1, 3) := by decide +kernel
theorem dX7_some_190 : decode cX7_some 190 = .ok (.goto (-128), 3) := by decide +kernel
theorem dX7_some_193 : decode cX7_some 193 = .ok (.aload_n 0, 1) := by decide +kernel
theorem dX7_some_194 : decode cX7_some 194 = .ok (.invokevirtual 80, 3) := by decide +kernel
theorem dX7_some_197 : decode cX7_some 197 = .ok (.ireturn, 1) := by decide +kernel
set_option maxRecDepth 20000 in
theorem ggX7_dual_X7_isRule : GoodIn wsX7_dual wsX7_isRule := goodIn_r _ [7, 1, 8, 9, 6, 10, 20, 21, 22, 23, 24, 25, 26, 27, 28, 29, 30, 31, 32, 33, 34, 35, 36] rfl (by decide +kernel)
set_option maxRecDepth 20000 in
theorem gX7_dual_X7_isRule : GoodIn wsX7_dual (wsV RX7 83 RX7 yX7_isRule wsX7_isRule) := goodIn_app (goodIn_of _ (by decide +kernel)) ggX7_dual_X7_isRule
set_option maxRecDepth 20000 in
theorem ggX7_dual_X7_settings : GoodIn wsX7_dual wsX7_settings := goodIn_r _ [14, 15, 20, 21, 22, 23, 24, 25, 26, 27, 28, 29, 30, 31, 32, 33, 34, 35, 36] rfl (by decide +kernel)
set_option maxRecDepth 20000 in
theorem gX7_dual_X7_settings : GoodIn wsX7_dual (wsV RX7 76 RX7 yX7_settings wsX7_settings) := goodIn_app (goodIn_of _ (by decide +kernel)) ggX7_dual_X7_settings
set_option maxRecDepth 20000 in
theorem ggX7_dual_X7_added : GoodIn wsX7_dual wsX7_added := goodIn_r _ [19, 1, 20, 21, 22, 23, 24, 25, 26, 27, 28, 29, 30, 31, 32, 33, 34, 35, 36] rfl (by decide +kernel)
set_option maxRecDepth 20000 in
theorem gX7_dual_X7_added : GoodIn wsX7_dual (wsV RX7 80 RX7 yX7_added wsX7_added) := goodIn_app (goodIn_of _ (by decide +kernel)) ggX7_dual_X7_added
theorem dX7_dual_0 : decode cX7_dual 0 = .ok (.aload_n 0, 1) := by decide +kernel
theorem dX7_dual_1 : decode cX7_dual 1 = .ok (.iload_n 1, 1) := by decide +kernel
theorem dX7_dual_2 : decode cX7_dual 2 = .ok (.invokevirtual 83, 3) := by decide +kernel
theorem dX7_dual_5 : decode cX7_dual 5 = .ok (.ifCond .eq 12, 3) := by decide +kernel
theorem dX7_dual_8 : decode cX7_dual 8 = .ok (.aload_n 0, 1) := by decide +kernel
theorem dX7_dual_9 : decode cX7_dual 9 = .ok (.getfield 59, 3) := by decide +kernel
theorem dX7_dual_12 : decode cX7_dual 12 = .ok (.bipush 40, 2) := by decide +kernel
theorem dX7_dual_14 : decode cX7_dual 14 = .ok (.if_icmp .ne 5, 3) := by decide +kernel
theorem dX7_dual_17 : decode cX7_dual 17 = .ok (.iconst (-1), 1) := by decide +kernel
theorem dX7_dual_18 : decode cX7_dual 18 = .ok (.ireturn, 1) := by decide +kernel
theorem dX7_dual_19 : decode cX7_dual 19 = .ok (.iconst 0, 1) := by decide +kernel
theorem dX7_dual_20 : decode cX7_dual 20 = .ok (.istore_n 2, 1) := by decide +kernel
theorem dX7_dual_21 : decode cX7_dual 21 = .ok (.iload_n 2, 1) := by decide +kernel
theorem dX7_dual_22 : decode cX7_dual 22 = .ok (.aload_n 0, 1) := by decide +kernel
theorem dX7_dual_23 : decode cX7_dual 23 = .ok (.invokevirtual 76, 3) := by decide +kernel
theorem dX7_dual_26 : decode cX7_dual 26 = .ok (.if_icmp .ge 51, 3) := by decide +kernel
theorem dX7_dual_29 : decode cX7_dual 29 = .ok (.aload_n 0, 1) := by decide +kernel
theorem dX7_dual_30 : decode cX7_dual 30 = .ok (.getfield 23, 3) := by decide +kernel
theorem dX7_dual_33 : decode cX7_dual 33 = .ok (.sipush 512, 3) := by decide +kernel
theorem dX7_dual_36 : decode cX7_dual 36 = .ok (.aload_n 0, 1) := by decide +kernel
theorem dX7_dual_37 : decode cX7_dual 37 = .ok (.getfield 59, 3) := by decide +kernel
theorem dX7_dual_40 : decode cX7_dual 40 = .ok (.imul, 1) := by decide +kernel
theorem dX7_dual_41 : decode cX7_dual 41 = .ok (.iload_n 2, 1) := by decide +kernel
theorem dX7_dual_42 : decode cX7_dual 42 = .ok (.iadd, 1) := by decide +kernel
theorem dX7_dual_43 : decode cX7_dual 43 = .ok (.aload_n 0, 1) := by decide +kernel
theorem dX7_dual_44 : decode cX7_dual 44 = .ok (.getfield 23, 3) := by decide +kernel
theorem dX7_dual_47 : decode cX7_dual 47 = .ok (.sipush 512, 3) := by decide +kernel
theorem dX7_dual_50 : decode cX7_dual 50 = .ok (.iload_n 1, 1) := by decide +kernel
theorem dX7_dual_51 : decode cX7_dual 51 = .ok (.imul, 1) := by decide +kernel
theorem dX7_dual_52 : decode cX7_dual 52 = .ok (.aload_n 0, 1) := by decide +kernel
theorem dX7_dual_53 : decode cX7_dual 53 = .ok (.invokevirtual 76, 3) := by decide +kernel
theorem dX7_dual_56 : decode cX7_dual 56 = .ok (.iadd, 1) := by decide +kernel
theorem dX7_dual_57 : decode cX7_dual 57 = .ok (.iconst 1, 1) := by decide +kernel
theorem dX7_dual_58 : decode cX7_dual 58 = .ok (.isub, 1) := by decide +kernel
theorem dX7_dual_59 : decode cX7_dual 59 = .ok (.iload_n 2, 1) := by decide +kernel
theorem dX7_dual_60 : decode cX7_dual 60 = .ok (.isub, 1) := by decide +kernel
theorem dX7_dual_61 : decode cX7_dual 61 = .ok (.baload, 1) := by decide +kernel
theorem dX7_dual_62 : decode cX7_dual 62 = .ok (.ifCond .ne 7, 3) := by decide +kernel
theorem dX7_dual_65 : decode cX7_dual 65 = .ok (.iconst 1, 1) := by decide +kernel
theorem dX7_dual_66 : decode cX7_dual 66 = .ok (.goto 4, 3) := by decide +kernel
theorem dX7_dual_69 : decode cX7_dual 69 = .ok (.iconst 0, 1) := by decide +kernel
theorem dX7_dual_70 : decode cX7_dual 70 = .ok (.bastore, 1) := by decide +kernel
theorem dX7_dual_71 : decode cX7_dual 71 = .ok (.iinc 2 1, 3) := by decide +kernel
theorem dX7_dual_74 : decode cX7_dual 74 = .ok (.goto (-53), 3) := by decide +kernel
theorem dX7_dual_77 : decode cX7_dual 77 = .ok (.aload_n 0, 1) := by decide +kernel
theorem dX7_dual_78 : decode cX7_dual 78 = .ok (.invokevirtual 80, 3) := by decide +kernel
theorem dX7_dual_81 : decode cX7_dual 81 = .ok (.ireturn, 1) := by decide +kernel
set_option maxRecDepth 20000 in
theorem ggX7_system_X7_isRule : GoodIn wsX7_system wsX7_isRule := goodIn_r _ [6, 7, 8, 9, 5, 10, 11, 12, 13, 14, 15, 16, 17, 18, 19, 20, 21, 22, 23, 24, 25, 26, 27] rfl (by decide +kernel)
set_option maxRecDepth 20000 in
theorem gX7_system_X7_isRule : GoodIn wsX7_system (wsV RX7 83 RX7 yX7_isRule wsX7_isRule) := goodIn_app (goodIn_of _ (by decide +kernel)) ggX7_system_X7_isRule
theorem dX7_system_0 : decode cX7_system 0 = .ok (.aload_n 0, 1) := by decide +kernel
theorem dX7_system_1 : decode cX7_system 1 = .ok (.iload_n 1, 1) := by decide +kernel
theorem dX7_system_2 : decode cX7_system 2 = .ok (.invokevirtual 83, 3) := by decide +kernel
theorem dX7_system_5 : decode cX7_system 5 = .ok (.ifCond .ne 5, 3) := by decide +kernel
theorem dX7_system_8 : decode cX7_system 8 = .ok (.iconst 0, 1) := by decide +kernel
theorem dX7_system_9 : decode cX7_system 9 = .ok (.ireturn, 1) := by decide +kernel
theorem dX7_system_10 : decode cX7_system 10 = .ok (.aload_n 0, 1) := by decide +kernel
theorem dX7_system_11 : decode cX7_system 11 = .ok (.iload_n 1, 1) := by decide +kernel
theorem dX7_system_12 : decode cX7_system 12 = .ok (.putfield 27, 3) := by decide +kernel
theorem dX7_system_15 : decode cX7_system 15 = .ok (.iconst 1, 1) := by decide +kernel
theorem dX7_system_16 : decode cX7_system 16 = .ok (.ireturn, 1) := by decide +kernel
set_option maxRecDepth 20000 in
theorem ggX7_says_X7_isRule : GoodIn wsX7_says wsX7_isRule := goodIn_r _ [6, 7, 8, 9, 5, 10, 16, 17, 18, 19, 20, 21, 22, 23, 24, 25, 26, 27, 28, 29, 30, 31, 32] rfl (by decide +kernel)
set_option maxRecDepth 20000 in
theorem gX7_says_X7_isRule : GoodIn wsX7_says (wsV RX7 83 RX7 yX7_isRule wsX7_isRule) := goodIn_app (goodIn_of _ (by decide +kernel)) ggX7_says_X7_isRule
set_option maxRecDepth 20000 in
theorem ggX7_says_X7_settings : GoodIn wsX7_says wsX7_settings := goodIn_r _ [14, 15, 16, 17, 18, 19, 20, 21, 22, 23, 24, 25, 26, 27, 28, 29, 30, 31, 32] rfl (by decide +kernel)
set_option maxRecDepth 20000 in
theorem gX7_says_X7_settings : GoodIn wsX7_says (wsV RX7 76 RX7 yX7_settings wsX7_settings) := goodIn_app (goodIn_of _ (by decide +kernel)) ggX7_says_X7_settings
set_option maxRecDepth 20000 in
theorem ggX7_says_X7_in : GoodIn wsX7_says wsX7_in := goodIn_r _ [10] rfl (by decide +kernel)
set_option maxRecDepth 20000 in
theorem gX7_says_X7_in : GoodIn wsX7_says (va_wsS RX7 55 yX7_in wsX7_in) := goodIn_app (goodIn_of _ (by decide +kernel)) ggX7_says_X7_in
theorem dX7_says_0 : decode cX7_says 0 = .ok (.aload_n 0, 1) := by decide +kernel
theorem dX7_says_1 : decode cX7_says 1 = .ok (.iload_n 1, 1) := by decide +kernel
theorem dX7_says_2 : decode cX7_says 2 = .ok (.invokevirtual 83, 3) := by decide +kernel
theorem dX7_says_5 : decode cX7_says 5 = .ok (.ifCond .eq 19, 3) := by decide +kernel
theorem dX7_says_8 : decode cX7_says 8 = .ok (.iload_n 2, 1) := by decide +kernel
theorem dX7_says_9 : decode cX7_says 9 = .ok (.i2l, 1) := by decide +kernel
theorem dX7_says_10 : decode cX7_says 10 = .ok (.lconst 0, 1) := by decide +kernel
theorem dX7_says_11 : decode cX7_says 11 = .ok (.aload_n 0, 1) := by decide +kernel
theorem dX7_says_12 : decode cX7_says 12 = .ok (.invokevirtual 76, 3) := by decide +kernel
theorem dX7_says_15 : decode cX7_says 15 = .ok (.iconst 1, 1) := by decide +kernel
theorem dX7_says_16 : decode cX7_says 16 = .ok (.isub, 1) := by decide +kernel
theorem dX7_says_17 : decode cX7_says 17 = .ok (.i2l, 1) := by decide +kernel
theorem dX7_says_18 : decode cX7_says 18 = .ok (.invokestatic 55, 3) := by decide +kernel
theorem dX7_says_21 : decode cX7_says 21 = .ok (.ifCond .ne 7, 3) := by decide +kernel
theorem dX7_says_24 : decode cX7_says 24 = .ok (.iconst (-1), 1) := by decide +kernel
theorem dX7_says_25 : decode cX7_says 25 = .ok (.goto 23, 3) := by decide +kernel
theorem dX7_says_28 : decode cX7_says 28 = .ok (.aload_n 0, 1) := by decide +kernel
theorem dX7_says_29 : decode cX7_says 29 = .ok (.getfield 23, 3) := by decide +kernel
theorem dX7_says_32 : decode cX7_says 32 = .ok (.sipush 512, 3) := by decide +kernel
theorem dX7_says_35 : decode cX7_says 35 = .ok (.iload_n 1, 1) := by decide +kernel
theorem dX7_says_36 : decode cX7_says 36 = .ok (.imul, 1) := by decide +kernel
theorem dX7_says_37 : decode cX7_says 37 = .ok (.iload_n 2, 1) := by decide +kernel
theorem dX7_says_38 : decode cX7_says 38 = .ok (.iadd, 1) := by decide +kernel
theorem dX7_says_39 : decode cX7_says 39 = .ok (.baload, 1) := by decide +kernel
theorem dX7_says_40 : decode cX7_says 40 = .ok (.ifCond .eq 7, 3) := by decide +kernel
theorem dX7_says_43 : decode cX7_says 43 = .ok (.iconst 1, 1) := by decide +kernel
theorem dX7_says_44 : decode cX7_says 44 = .ok (.goto 4, 3) := by decide +kernel
theorem dX7_says_47 : decode cX7_says 47 = .ok (.iconst 0, 1) := by decide +kernel
theorem dX7_says_48 : decode cX7_says 48 = .ok (.ireturn, 1) := by decide +kernel
set_option maxRecDepth 20000 in
theorem ggX7_differ_X7_isRule : GoodIn wsX7_differ wsX7_isRule := goodIn_r _ [6, 7, 8, 9, 5, 10, 16, 17, 18, 19, 20, 21, 22, 23, 24, 25, 26, 27, 28, 29, 30, 31, 32] rfl (by decide +kernel)
set_option maxRecDepth 20000 in
theorem gX7_differ_X7_isRule : GoodIn wsX7_differ (wsV RX7 83 RX7 yX7_isRule wsX7_isRule) := goodIn_app (goodIn_of _ (by decide +kernel)) ggX7_differ_X7_isRule
set_option maxRecDepth 20000 in
theorem ggX7_differ_X7_settings : GoodIn wsX7_differ wsX7_settings := goodIn_r _ [14, 15, 16, 17, 18, 19, 20, 21, 22, 23, 24, 25, 26, 27, 28, 29, 30, 31, 32] rfl (by decide +kernel)
set_option maxRecDepth 20000 in
theorem gX7_differ_X7_settings : GoodIn wsX7_differ (wsV RX7 76 RX7 yX7_settings wsX7_settings) := goodIn_app (goodIn_of _ (by decide +kernel)) ggX7_differ_X7_settings
theorem dX7_differ_0 : decode cX7_differ 0 = .ok (.aload_n 0, 1) := by decide +kernel
theorem dX7_differ_1 : decode cX7_differ 1 = .ok (.iload_n 1, 1) := by decide +kernel
theorem dX7_differ_2 : decode cX7_differ 2 = .ok (.invokevirtual 83, 3) := by decide +kernel
theorem dX7_differ_5 : decode cX7_differ 5 = .ok (.ifCond .eq 11, 3) := by decide +kernel
theorem dX7_differ_8 : decode cX7_differ 8 = .ok (.aload_n 0, 1) := by decide +kernel
theorem dX7_differ_9 : decode cX7_differ 9 = .ok (.iload_n 2, 1) := by decide +kernel
theorem dX7_differ_10 : decode cX7_differ 10 = .ok (.invokevirtual 83, 3) := by decide +kernel
theorem dX7_differ_13 : decode cX7_differ 13 = .ok (.ifCond .ne 5, 3) := by decide +kernel
theorem dX7_differ_16 : decode cX7_differ 16 = .ok (.iconst (-1), 1) := by decide +kernel
theorem dX7_differ_17 : decode cX7_differ 17 = .ok (.ireturn, 1) := by decide +kernel
theorem dX7_differ_18 : decode cX7_differ 18 = .ok (.iconst 0, 1) := by decide +kernel
theorem dX7_differ_19 : decode cX7_differ 19 = .ok (.istore_n 3, 1) := by decide +kernel
theorem dX7_differ_20 : decode cX7_differ 20 = .ok (.iload_n 3, 1) := by decide +kernel
theorem dX7_differ_21 : decode cX7_differ 21 = .ok (.aload_n 0, 1) := by decide +kernel
theorem dX7_differ_22 : decode cX7_differ 22 = .ok (.invokevirtual 76, 3) := by decide +kernel
theorem dX7_differ_25 : decode cX7_differ 25 = .ok (.if_icmp .ge 38, 3) := by decide +kernel
theorem dX7_differ_28 : decode cX7_differ 28 = .ok (.aload_n 0, 1) := by decide +kernel
theorem dX7_differ_29 : decode cX7_differ 29 = .ok (.getfield 23, 3) := by decide +kernel
theorem dX7_differ_32 : decode cX7_differ 32 = .ok (.sipush 512, 3) := by decide +kernel
theorem dX7_differ_35 : decode cX7_differ 35 = .ok (.iload_n 1, 1) := by decide +kernel
theorem dX7_differ_36 : decode cX7_differ 36 = .ok (.imul, 1) := by decide +kernel
theorem dX7_differ_37 : decode cX7_differ 37 = .ok (.iload_n 3, 1) := by decide +kernel
theorem dX7_differ_38 : decode cX7_differ 38 = .ok (.iadd, 1) := by decide +kernel
theorem dX7_differ_39 : decode cX7_differ 39 = .ok (.baload, 1) := by decide +kernel
theorem dX7_differ_40 : decode cX7_differ 40 = .ok (.aload_n 0, 1) := by decide +kernel
theorem dX7_differ_41 : decode cX7_differ 41 = .ok (.getfield 23, 3) := by decide +kernel
theorem dX7_differ_44 : decode cX7_differ 44 = .ok (.sipush 512, 3) := by decide +kernel
theorem dX7_differ_47 : decode cX7_differ 47 = .ok (.iload_n 2, 1) := by decide +kernel
theorem dX7_differ_48 : decode cX7_differ 48 = .ok (.imul, 1) := by decide +kernel
theorem dX7_differ_49 : decode cX7_differ 49 = .ok (.iload_n 3, 1) := by decide +kernel
theorem dX7_differ_50 : decode cX7_differ 50 = .ok (.iadd, 1) := by decide +kernel
theorem dX7_differ_51 : decode cX7_differ 51 = .ok (.baload, 1) := by decide +kernel
theorem dX7_differ_52 : decode cX7_differ 52 = .ok (.if_icmp .eq 5, 3) := by decide +kernel
theorem dX7_differ_55 : decode cX7_differ 55 = .ok (.iload_n 3, 1) := by decide +kernel
theorem dX7_differ_56 : decode cX7_differ 56 = .ok (.ireturn, 1) := by decide +kernel
theorem dX7_differ_57 : decode cX7_differ 57 = .ok (.iinc 3 1, 3) := by decide +kernel
theorem dX7_differ_60 : decode cX7_differ 60 = .ok (.goto (-40), 3) := by decide +kernel
theorem dX7_differ_63 : decode cX7_differ 63 = .ok (.iconst (-1), 1) := by decide +kernel
theorem dX7_differ_64 : decode cX7_differ 64 = .ok (.ireturn, 1) := by decide +kernel
theorem dX7_isGood_0 : decode cX7_isGood 0 = .ok (.aload_n 0, 1) := by decide +kernel
theorem dX7_isGood_1 : decode cX7_isGood 1 = .ok (.getfield 23, 3) := by decide +kernel
theorem dX7_isGood_4 : decode cX7_isGood 4 = .ok (.sipush 512, 3) := by decide +kernel
theorem dX7_isGood_7 : decode cX7_isGood 7 = .ok (.aload_n 0, 1) := by decide +kernel
theorem dX7_isGood_8 : decode cX7_isGood 8 = .ok (.getfield 27, 3) := by decide +kernel
theorem dX7_isGood_11 : decode cX7_isGood 11 = .ok (.imul, 1) := by decide +kernel
theorem dX7_isGood_12 : decode cX7_isGood 12 = .ok (.iload_n 1, 1) := by decide +kernel
theorem dX7_isGood_13 : decode cX7_isGood 13 = .ok (.iadd, 1) := by decide +kernel
theorem dX7_isGood_14 : decode cX7_isGood 14 = .ok (.baload, 1) := by decide +kernel
theorem dX7_isGood_15 : decode cX7_isGood 15 = .ok (.ireturn, 1) := by decide +kernel
set_option maxRecDepth 20000 in
theorem ggX7_isLeast_X7_isEnough : GoodIn wsX7_isLeast wsX7_isEnough := goodIn_r _ [6, 7, 8, 9, 5, 10, 11, 12, 13, 14, 15, 16, 1, 17, 18, 19, 20, 21, 22, 23, 24, 25, 26, 27, 28, 29, 30, 31, 32, 33] rfl (by decide +kernel)
set_option maxRecDepth 20000 in
theorem gX7_isLeast_X7_isEnough : GoodIn wsX7_isLeast (wsV RX7 90 RX7 yX7_isEnough wsX7_isEnough) := goodIn_app (goodIn_of _ (by decide +kernel)) ggX7_isLeast_X7_isEnough
theorem dX7_isLeast_0 : decode cX7_isLeast 0 = .ok (.aload_n 0, 1) := by decide +kernel
theorem dX7_isLeast_1 : decode cX7_isLeast 1 = .ok (.iload_n 1, 1) := by decide +kernel
theorem dX7_isLeast_2 : decode cX7_isLeast 2 = .ok (.iload_n 2, 1) := by decide +kernel
theorem dX7_isLeast_3 : decode cX7_isLeast 3 = .ok (.invokevirtual 90, 3) := by decide +kernel
theorem dX7_isLeast_6 : decode cX7_isLeast 6 = .ok (.istore_n 3, 1) := by decide +kernel
theorem dX7_isLeast_7 : decode cX7_isLeast 7 = .ok (.iconst 0, 1) := by decide +kernel
theorem dX7_isLeast_8 : decode cX7_isLeast 8 = .ok (.istore 4, 2) := by decide +kernel
theorem dX7_isLeast_10 : decode cX7_isLeast 10 = .ok (.iload 4, 2) := by decide +kernel
theorem dX7_isLeast_12 : decode cX7_isLeast 12 = .ok (.aload_n 0, 1) := by decide +kernel
theorem dX7_isLeast_13 : decode cX7_isLeast 13 = .ok (.getfield 7, 3) := by decide +kernel
theorem dX7_isLeast_16 : decode cX7_isLeast 16 = .ok (.if_icmp .ge 42, 3) := by decide +kernel
theorem dX7_isLeast_19 : decode cX7_isLeast 19 = .ok (.iload_n 3, 1) := by decide +kernel
theorem dX7_isLeast_20 : decode cX7_isLeast 20 = .ok (.ifCond .eq 38, 3) := by decide +kernel
theorem dX7_isLeast_23 : decode cX7_isLeast 23 = .ok (.iload_n 2, 1) := by decide +kernel
theorem dX7_isLeast_24 : decode cX7_isLeast 24 = .ok (.iload 4, 2) := by decide +kernel
theorem dX7_isLeast_26 : decode cX7_isLeast 26 = .ok (.ishr, 1) := by decide +kernel
theorem dX7_isLeast_27 : decode cX7_isLeast 27 = .ok (.iconst 1, 1) := by decide +kernel
theorem dX7_isLeast_28 : decode cX7_isLeast 28 = .ok (.iand, 1) := by decide +kernel
theorem dX7_isLeast_29 : decode cX7_isLeast 29 = .ok (.ifCond .eq 17, 3) := by decide +kernel
theorem dX7_isLeast_32 : decode cX7_isLeast 32 = .ok (.aload_n 0, 1) := by decide +kernel
theorem dX7_isLeast_33 : decode cX7_isLeast 33 = .ok (.iload_n 1, 1) := by decide +kernel
theorem dX7_isLeast_34 : decode cX7_isLeast 34 = .ok (.iload_n 2, 1) := by decide +kernel
theorem dX7_isLeast_35 : decode cX7_isLeast 35 = .ok (.iconst 1, 1) := by decide +kernel
theorem dX7_isLeast_36 : decode cX7_isLeast 36 = .ok (.iload 4, 2) := by decide +kernel
theorem dX7_isLeast_38 : decode cX7_isLeast 38 = .ok (.ishl, 1) := by decide +kernel
theorem dX7_isLeast_39 : decode cX7_isLeast 39 = .ok (.isub, 1) := by decide +kernel
theorem dX7_isLeast_40 : decode cX7_isLeast 40 = .ok (.invokevirtual 90, 3) := by decide +kernel
theorem dX7_isLeast_43 : decode cX7_isLeast 43 = .ok (.ifCond .ne 7, 3) := by decide +kernel
theorem dX7_isLeast_46 : decode cX7_isLeast 46 = .ok (.iconst 1, 1) := by decide +kernel
theorem dX7_isLeast_47 : decode cX7_isLeast 47 = .ok (.goto 4, 3) := by decide +kernel
theorem dX7_isLeast_50 : decode cX7_isLeast 50 = .ok (.iconst 0, 1) := by decide +kernel
theorem dX7_isLeast_51 : decode cX7_isLeast 51 = .ok (.istore_n 3, 1) := by decide +kernel
theorem dX7_isLeast_52 : decode cX7_isLeast 52 = .ok (.iinc 4 1, 3) := by decide +kernel
theorem dX7_isLeast_55 : decode cX7_isLeast 55 = .ok (.goto (-45), 3) := by decide +kernel
theorem dX7_isLeast_58 : decode cX7_isLeast 58 = .ok (.iload_n 3, 1) := by decide +kernel
theorem dX7_isLeast_59 : decode cX7_isLeast 59 = .ok (.ireturn, 1) := by decide +kernel
set_option maxRecDepth 20000 in
theorem ggX7_isEnough_X7_isGood : GoodIn wsX7_isEnough wsX7_isGood := goodIn_r _ [5, 6, 7, 13, 14, 15, 16, 17, 18, 19, 20, 21, 22, 23, 24, 25, 26, 27, 28, 29] rfl (by decide +kernel)
set_option maxRecDepth 20000 in
theorem gX7_isEnough_X7_isGood : GoodIn wsX7_isEnough (wsV RX7 94 RX7 yX7_isGood wsX7_isGood) := goodIn_app (goodIn_of _ (by decide +kernel)) ggX7_isEnough_X7_isGood
set_option maxRecDepth 20000 in
theorem ggX7_isEnough_X7_settings : GoodIn wsX7_isEnough wsX7_settings := goodIn_r _ [11, 12, 13, 14, 15, 16, 17, 18, 19, 20, 21, 22, 23, 24, 25, 26, 27, 28, 29] rfl (by decide +kernel)
set_option maxRecDepth 20000 in
theorem gX7_isEnough_X7_settings : GoodIn wsX7_isEnough (wsV RX7 76 RX7 yX7_settings wsX7_settings) := goodIn_app (goodIn_of _ (by decide +kernel)) ggX7_isEnough_X7_settings
theorem dX7_isEnough_0 : decode cX7_isEnough 0 = .ok (.iload_n 1, 1) := by decide +kernel
theorem dX7_isEnough_1 : decode cX7_isEnough 1 = .ok (.ifCond .ne 11, 3) := by decide +kernel
theorem dX7_isEnough_4 : decode cX7_isEnough 4 = .ok (.aload_n 0, 1) := by decide +kernel
theorem dX7_isEnough_5 : decode cX7_isEnough 5 = .ok (.iload_n 2, 1) := by decide +kernel
theorem dX7_isEnough_6 : decode cX7_isEnough 6 = .ok (.invokevirtual 94, 3) := by decide +kernel
theorem dX7_isEnough_9 : decode cX7_isEnough 9 = .ok (.goto 23, 3) := by decide +kernel
theorem dX7_isEnough_12 : decode cX7_isEnough 12 = .ok (.aload_n 0, 1) := by decide +kernel
theorem dX7_isEnough_13 : decode cX7_isEnough 13 = .ok (.aload_n 0, 1) := by decide +kernel
theorem dX7_isEnough_14 : decode cX7_isEnough 14 = .ok (.invokevirtual 76, 3) := by decide +kernel
theorem dX7_isEnough_17 : decode cX7_isEnough 17 = .ok (.iconst 1, 1) := by decide +kernel
theorem dX7_isEnough_18 : decode cX7_isEnough 18 = .ok (.isub, 1) := by decide +kernel
theorem dX7_isEnough_19 : decode cX7_isEnough 19 = .ok (.iload_n 2, 1) := by decide +kernel
theorem dX7_isEnough_20 : decode cX7_isEnough 20 = .ok (.isub, 1) := by decide +kernel
theorem dX7_isEnough_21 : decode cX7_isEnough 21 = .ok (.invokevirtual 94, 3) := by decide +kernel
theorem dX7_isEnough_24 : decode cX7_isEnough 24 = .ok (.ifCond .ne 7, 3) := by decide +kernel
theorem dX7_isEnough_27 : decode cX7_isEnough 27 = .ok (.iconst 1, 1) := by decide +kernel
theorem dX7_isEnough_28 : decode cX7_isEnough 28 = .ok (.goto 4, 3) := by decide +kernel
theorem dX7_isEnough_31 : decode cX7_isEnough 31 = .ok (.iconst 0, 1) := by decide +kernel
theorem dX7_isEnough_32 : decode cX7_isEnough 32 = .ok (.ireturn, 1) := by decide +kernel
set_option maxRecDepth 20000 in
theorem ggX7_sets_X7_in : GoodIn wsX7_sets wsX7_in := goodIn_r _ [5] rfl (by decide +kernel)
set_option maxRecDepth 20000 in
theorem gX7_sets_X7_in : GoodIn wsX7_sets (va_wsS RX7 55 yX7_in wsX7_in) := goodIn_app (goodIn_of _ (by decide +kernel)) ggX7_sets_X7_in
set_option maxRecDepth 20000 in
theorem ggX7_sets_X7_settings : GoodIn wsX7_sets wsX7_settings := goodIn_r _ [9, 10, 24, 25, 26, 27, 28, 29, 30, 31, 32, 33, 34, 35, 36, 37, 38, 39, 40] rfl (by decide +kernel)
set_option maxRecDepth 20000 in
theorem gX7_sets_X7_settings : GoodIn wsX7_sets (wsV RX7 76 RX7 yX7_settings wsX7_settings) := goodIn_app (goodIn_of _ (by decide +kernel)) ggX7_sets_X7_settings
set_option maxRecDepth 20000 in
theorem ggX7_sets_X7_isLeast : GoodIn wsX7_sets wsX7_isLeast := goodIn_r _ [14, 10, 15, 16, 17, 4, 18, 19, 20, 21, 22, 23, 1, 6, 7, 8, 9, 24, 25, 26, 27, 28, 29, 30, 31, 32, 33, 34, 35, 36, 37, 38, 39, 40] rfl (by decide +kernel)
set_option maxRecDepth 20000 in
theorem gX7_sets_X7_isLeast : GoodIn wsX7_sets (wsV RX7 97 RX7 yX7_isLeast wsX7_isLeast) := goodIn_app (goodIn_of _ (by decide +kernel)) ggX7_sets_X7_isLeast
theorem dX7_sets_0 : decode cX7_sets 0 = .ok (.iload_n 1, 1) := by decide +kernel
theorem dX7_sets_1 : decode cX7_sets 1 = .ok (.i2l, 1) := by decide +kernel
theorem dX7_sets_2 : decode cX7_sets 2 = .ok (.lconst 0, 1) := by decide +kernel
theorem dX7_sets_3 : decode cX7_sets 3 = .ok (.lconst 1, 1) := by decide +kernel
theorem dX7_sets_4 : decode cX7_sets 4 = .ok (.invokestatic 55, 3) := by decide +kernel
theorem dX7_sets_7 : decode cX7_sets 7 = .ok (.ifCond .eq 10, 3) := by decide +kernel
theorem dX7_sets_10 : decode cX7_sets 10 = .ok (.aload_n 0, 1) := by decide +kernel
theorem dX7_sets_11 : decode cX7_sets 11 = .ok (.getfield 27, 3) := by decide +kernel
theorem dX7_sets_14 : decode cX7_sets 14 = .ok (.ifCond .ge 5, 3) := by decide +kernel
theorem dX7_sets_17 : decode cX7_sets 17 = .ok (.iconst (-1), 1) := by decide +kernel
theorem dX7_sets_18 : decode cX7_sets 18 = .ok (.ireturn, 1) := by decide +kernel
theorem dX7_sets_19 : decode cX7_sets 19 = .ok (.iconst 0, 1) := by decide +kernel
theorem dX7_sets_20 : decode cX7_sets 20 = .ok (.istore_n 2, 1) := by decide +kernel
theorem dX7_sets_21 : decode cX7_sets 21 = .ok (.iconst 0, 1) := by decide +kernel
theorem dX7_sets_22 : decode cX7_sets 22 = .ok (.istore_n 3, 1) := by decide +kernel
theorem dX7_sets_23 : decode cX7_sets 23 = .ok (.iload_n 3, 1) := by decide +kernel
theorem dX7_sets_24 : decode cX7_sets 24 = .ok (.aload_n 0, 1) := by decide +kernel
theorem dX7_sets_25 : decode cX7_sets 25 = .ok (.invokevirtual 76, 3) := by decide +kernel
theorem dX7_sets_28 : decode cX7_sets 28 = .ok (.if_icmp .ge 26, 3) := by decide +kernel
theorem dX7_sets_31 : decode cX7_sets 31 = .ok (.iload_n 2, 1) := by decide +kernel
theorem dX7_sets_32 : decode cX7_sets 32 = .ok (.aload_n 0, 1) := by decide +kernel
theorem dX7_sets_33 : decode cX7_sets 33 = .ok (.iload_n 1, 1) := by decide +kernel
theorem dX7_sets_34 : decode cX7_sets 34 = .ok (.iload_n 3, 1) := by decide +kernel
theorem dX7_sets_35 : decode cX7_sets 35 = .ok (.invokevirtual 97, 3) := by decide +kernel
theorem dX7_sets_38 : decode cX7_sets 38 = .ok (.ifCond .eq 7, 3) := by decide +kernel
theorem dX7_sets_41 : decode cX7_sets 41 = .ok (.iconst 1, 1) := by decide +kernel
theorem dX7_sets_42 : decode cX7_sets 42 = .ok (.goto 4, 3) := by decide +kernel
theorem dX7_sets_45 : decode cX7_sets 45 = .ok (.iconst 0, 1) := by decide +kernel
theorem dX7_sets_46 : decode cX7_sets 46 = .ok (.iadd, 1) := by decide +kernel
theorem dX7_sets_47 : decode cX7_sets 47 = .ok (.istore_n 2, 1) := by decide +kernel
theorem dX7_sets_48 : decode cX7_sets 48 = .ok (.iinc 3 1, 3) := by decide +kernel
theorem dX7_sets_51 : decode cX7_sets 51 = .ok (.goto (-28), 3) := by decide +kernel
theorem dX7_sets_54 : decode cX7_sets 54 = .ok (.iload_n 2, 1) := by decide +kernel
theorem dX7_sets_55 : decode cX7_sets 55 = .ok (.ireturn, 1) := by decide +kernel
set_option maxRecDepth 20000 in
theorem ggX7_set_X7_in : GoodIn wsX7_set wsX7_in := goodIn_r _ [5] rfl (by decide +kernel)
set_option maxRecDepth 20000 in
theorem gX7_set_X7_in : GoodIn wsX7_set (va_wsS RX7 55 yX7_in wsX7_in) := goodIn_app (goodIn_of _ (by decide +kernel)) ggX7_set_X7_in
set_option maxRecDepth 20000 in
theorem ggX7_set_X7_settings : GoodIn wsX7_set wsX7_settings := goodIn_r _ [9, 10, 24, 25, 26, 27, 28, 29, 30, 31, 32, 33, 34, 35, 36, 37, 38, 39, 40] rfl (by decide +kernel)
set_option maxRecDepth 20000 in
theorem gX7_set_X7_settings : GoodIn wsX7_set (wsV RX7 76 RX7 yX7_settings wsX7_settings) := goodIn_app (goodIn_of _ (by decide +kernel)) ggX7_set_X7_settings
set_option maxRecDepth 20000 in
theorem ggX7_set_X7_isLeast : GoodIn wsX7_set wsX7_isLeast := goodIn_r _ [14, 10, 15, 16, 17, 4, 18, 19, 20, 21, 22, 23, 1, 6, 7, 8, 9, 24, 25, 26, 27, 28, 29, 30, 31, 32, 33, 34, 35, 36, 37, 38, 39, 40] rfl (by decide +kernel)
set_option maxRecDepth 20000 in
theorem gX7_set_X7_isLeast : GoodIn wsX7_set (wsV RX7 97 RX7 yX7_isLeast wsX7_isLeast) := goodIn_app (goodIn_of _ (by decide +kernel)) ggX7_set_X7_isLeast
theorem dX7_set_0 : decode cX7_set 0 = .ok (.iload_n 1, 1) := by decide +kernel
theorem dX7_set_1 : decode cX7_set 1 = .ok (.i2l, 1) := by decide +kernel
theorem dX7_set_2 : decode cX7_set 2 = .ok (.lconst 0, 1) := by decide +kernel
theorem dX7_set_3 : decode cX7_set 3 = .ok (.lconst 1, 1) := by decide +kernel
theorem dX7_set_4 : decode cX7_set 4 = .ok (.invokestatic 55, 3) := by decide +kernel
theorem dX7_set_7 : decode cX7_set 7 = .ok (.ifCond .eq 10, 3) := by decide +kernel
theorem dX7_set_10 : decode cX7_set 10 = .ok (.aload_n 0, 1) := by decide +kernel
theorem dX7_set_11 : decode cX7_set 11 = .ok (.getfield 27, 3) := by decide +kernel
theorem dX7_set_14 : decode cX7_set 14 = .ok (.ifCond .ge 5, 3) := by decide +kernel
theorem dX7_set_17 : decode cX7_set 17 = .ok (.iconst (-1), 1) := by decide +kernel
theorem dX7_set_18 : decode cX7_set 18 = .ok (.ireturn, 1) := by decide +kernel
theorem dX7_set_19 : decode cX7_set 19 = .ok (.iconst 0, 1) := by decide +kernel
theorem dX7_set_20 : decode cX7_set 20 = .ok (.istore_n 3, 1) := by decide +kernel
theorem dX7_set_21 : decode cX7_set 21 = .ok (.iconst 0, 1) := by decide +kernel
theorem dX7_set_22 : decode cX7_set 22 = .ok (.istore 4, 2) := by decide +kernel
theorem dX7_set_24 : decode cX7_set 24 = .ok (.iload 4, 2) := by decide +kernel
theorem dX7_set_26 : decode cX7_set 26 = .ok (.aload_n 0, 1) := by decide +kernel
theorem dX7_set_27 : decode cX7_set 27 = .ok (.invokevirtual 76, 3) := by decide +kernel
theorem dX7_set_30 : decode cX7_set 30 = .ok (.if_icmp .ge 30, 3) := by decide +kernel
theorem dX7_set_33 : decode cX7_set 33 = .ok (.aload_n 0, 1) := by decide +kernel
theorem dX7_set_34 : decode cX7_set 34 = .ok (.iload_n 1, 1) := by decide +kernel
theorem dX7_set_35 : decode cX7_set 35 = .ok (.iload 4, 2) := by decide +kernel
theorem dX7_set_37 : decode cX7_set 37 = .ok (.invokevirtual 97, 3) := by decide +kernel
theorem dX7_set_40 : decode cX7_set 40 = .ok (.ifCond .eq 14, 3) := by decide +kernel
theorem dX7_set_43 : decode cX7_set 43 = .ok (.iload_n 3, 1) := by decide +kernel
theorem dX7_set_44 : decode cX7_set 44 = .ok (.iload_n 2, 1) := by decide +kernel
theorem dX7_set_45 : decode cX7_set 45 = .ok (.if_icmp .ne 6, 3) := by decide +kernel
theorem dX7_set_48 : decode cX7_set 48 = .ok (.iload 4, 2) := by decide +kernel
theorem dX7_set_50 : decode cX7_set 50 = .ok (.ireturn, 1) := by decide +kernel
theorem dX7_set_51 : decode cX7_set 51 = .ok (.iinc 3 1, 3) := by decide +kernel
theorem dX7_set_54 : decode cX7_set 54 = .ok (.iinc 4 1, 3) := by decide +kernel
theorem dX7_set_57 : decode cX7_set 57 = .ok (.goto (-33), 3) := by decide +kernel
theorem dX7_set_60 : decode cX7_set 60 = .ok (.iconst (-1), 1) := by decide +kernel
theorem dX7_set_61 : decode cX7_set 61 = .ok (.ireturn, 1) := by decide +kernel
set_option maxRecDepth 20000 in
theorem ggX7_see_X7_isPart : GoodIn wsX7_see wsX7_isPart := goodIn_r _ [7, 8, 9, 10, 6, 11, 12, 13, 14, 15, 16, 17, 18, 19, 20, 21, 22, 23, 24, 25, 26, 27, 28] rfl (by decide +kernel)
set_option maxRecDepth 20000 in
theorem gX7_see_X7_isPart : GoodIn wsX7_see (wsV RX7 70 RX7 yX7_isPart wsX7_isPart) := goodIn_app (goodIn_of _ (by decide +kernel)) ggX7_see_X7_isPart
set_option maxRecDepth 20000 in
theorem ggX7_see_X7_in : GoodIn wsX7_see wsX7_in := goodIn_r _ [11] rfl (by decide +kernel)
set_option maxRecDepth 20000 in
theorem gX7_see_X7_in : GoodIn wsX7_see (va_wsS RX7 55 yX7_in wsX7_in) := goodIn_app (goodIn_of _ (by decide +kernel)) ggX7_see_X7_in
theorem dX7_see_0 : decode cX7_see 0 = .ok (.aload_n 0, 1) := by decide +kernel
theorem dX7_see_1 : decode cX7_see 1 = .ok (.iload_n 1, 1) := by decide +kernel
theorem dX7_see_2 : decode cX7_see 2 = .ok (.invokevirtual 70, 3) := by decide +kernel
theorem dX7_see_5 : decode cX7_see 5 = .ok (.ifCond .eq 15, 3) := by decide +kernel
theorem dX7_see_8 : decode cX7_see 8 = .ok (.iload_n 2, 1) := by decide +kernel
theorem dX7_see_9 : decode cX7_see 9 = .ok (.i2l, 1) := by decide +kernel
theorem dX7_see_10 : decode cX7_see 10 = .ok (.ldc2_w 100, 3) := by decide +kernel
theorem dX7_see_13 : decode cX7_see 13 = .ok (.lconst 1, 1) := by decide +kernel
theorem dX7_see_14 : decode cX7_see 14 = .ok (.invokestatic 55, 3) := by decide +kernel
theorem dX7_see_17 : decode cX7_see 17 = .ok (.ifCond .ne 5, 3) := by decide +kernel
theorem dX7_see_20 : decode cX7_see 20 = .ok (.iconst 0, 1) := by decide +kernel
theorem dX7_see_21 : decode cX7_see 21 = .ok (.ireturn, 1) := by decide +kernel
theorem dX7_see_22 : decode cX7_see 22 = .ok (.aload_n 0, 1) := by decide +kernel
theorem dX7_see_23 : decode cX7_see 23 = .ok (.getfield 30, 3) := by decide +kernel
theorem dX7_see_26 : decode cX7_see 26 = .ok (.iload_n 1, 1) := by decide +kernel
theorem dX7_see_27 : decode cX7_see 27 = .ok (.iload_n 2, 1) := by decide +kernel
theorem dX7_see_28 : decode cX7_see 28 = .ok (.iastore, 1) := by decide +kernel
theorem dX7_see_29 : decode cX7_see 29 = .ok (.iconst 1, 1) := by decide +kernel
theorem dX7_see_30 : decode cX7_see 30 = .ok (.ireturn, 1) := by decide +kernel
set_option maxRecDepth 20000 in
theorem ggX7_partOf_X7_isPart : GoodIn wsX7_partOf wsX7_isPart := goodIn_r _ [9, 10, 11, 12, 8, 13, 14, 15, 16, 17, 18, 19, 20, 21, 22, 23, 24, 25, 26, 27, 28, 29, 30] rfl (by decide +kernel)
set_option maxRecDepth 20000 in
theorem gX7_partOf_X7_isPart : GoodIn wsX7_partOf (wsV RX7 70 RX7 yX7_isPart wsX7_isPart) := goodIn_app (goodIn_of _ (by decide +kernel)) ggX7_partOf_X7_isPart
theorem dX7_partOf_0 : decode cX7_partOf 0 = .ok (.aload_n 0, 1) := by decide +kernel
theorem dX7_partOf_1 : decode cX7_partOf 1 = .ok (.iload_n 1, 1) := by decide +kernel
theorem dX7_partOf_2 : decode cX7_partOf 2 = .ok (.invokevirtual 70, 3) := by decide +kernel
theorem dX7_partOf_5 : decode cX7_partOf 5 = .ok (.ifCond .ne 6, 3) := by decide +kernel
theorem dX7_partOf_8 : decode cX7_partOf 8 = .ok (.bipush (-2), 2) := by decide +kernel
theorem dX7_partOf_10 : decode cX7_partOf 10 = .ok (.ireturn, 1) := by decide +kernel
theorem dX7_partOf_11 : decode cX7_partOf 11 = .ok (.iload_n 2, 1) := by decide +kernel
theorem dX7_partOf_12 : decode cX7_partOf 12 = .ok (.ifCond .ne 12, 3) := by decide +kernel
theorem dX7_partOf_15 : decode cX7_partOf 15 = .ok (.aload_n 0, 1) := by decide +kernel
theorem dX7_partOf_16 : decode cX7_partOf 16 = .ok (.getfield 13, 3) := by decide +kernel
theorem dX7_partOf_19 : decode cX7_partOf 19 = .ok (.iload_n 1, 1) := by decide +kernel
theorem dX7_partOf_20 : decode cX7_partOf 20 = .ok (.iaload, 1) := by decide +kernel
theorem dX7_partOf_21 : decode cX7_partOf 21 = .ok (.goto 47, 3) := by decide +kernel
theorem dX7_partOf_24 : decode cX7_partOf 24 = .ok (.iload_n 2, 1) := by decide +kernel
theorem dX7_partOf_25 : decode cX7_partOf 25 = .ok (.iconst 1, 1) := by decide +kernel
theorem dX7_partOf_26 : decode cX7_partOf 26 = .ok (.if_icmp .ne 12, 3) := by decide +kernel
theorem dX7_partOf_29 : decode cX7_partOf 29 = .ok (.aload_n 0, 1) := by decide +kernel
theorem dX7_partOf_30 : decode cX7_partOf 30 = .ok (.getfield 17, 3) := by decide +kernel
theorem dX7_partOf_33 : decode cX7_partOf 33 = .ok (.iload_n 1, 1) := by decide +kernel
theorem dX7_partOf_34 : decode cX7_partOf 34 = .ok (.iaload, 1) := by decide +kernel
theorem dX7_partOf_35 : decode cX7_partOf 35 = .ok (.goto 33, 3) := by decide +kernel
theorem dX7_partOf_38 : decode cX7_partOf 38 = .ok (.iload_n 2, 1) := by decide +kernel
theorem dX7_partOf_39 : decode cX7_partOf 39 = .ok (.iconst 2, 1) := by decide +kernel
theorem dX7_partOf_40 : decode cX7_partOf 40 = .ok (.if_icmp .ne 12, 3) := by decide +kernel
theorem dX7_partOf_43 : decode cX7_partOf 43 = .ok (.aload_n 0, 1) := by decide +kernel
theorem dX7_partOf_44 : decode cX7_partOf 44 = .ok (.getfield 20, 3) := by decide +kernel
theorem dX7_partOf_47 : decode cX7_partOf 47 = .ok (.iload_n 1, 1) := by decide +kernel
theorem dX7_partOf_48 : decode cX7_partOf 48 = .ok (.iaload, 1) := by decide +kernel
theorem dX7_partOf_49 : decode cX7_partOf 49 = .ok (.goto 19, 3) := by decide +kernel
theorem dX7_partOf_52 : decode cX7_partOf 52 = .ok (.iload_n 2, 1) := by decide +kernel
theorem dX7_partOf_53 : decode cX7_partOf 53 = .ok (.iconst 3, 1) := by decide +kernel
theorem dX7_partOf_54 : decode cX7_partOf 54 = .ok (.if_icmp .ne 12, 3) := by decide +kernel
theorem dX7_partOf_57 : decode cX7_partOf 57 = .ok (.aload_n 0, 1) := by decide +kernel
theorem dX7_partOf_58 : decode cX7_partOf 58 = .ok (.getfield 30, 3) := by decide +kernel
theorem dX7_partOf_61 : decode cX7_partOf 61 = .ok (.iload_n 1, 1) := by decide +kernel
theorem dX7_partOf_62 : decode cX7_partOf 62 = .ok (.iaload, 1) := by decide +kernel
theorem dX7_partOf_63 : decode cX7_partOf 63 = .ok (.goto 5, 3) := by decide +kernel
theorem dX7_partOf_66 : decode cX7_partOf 66 = .ok (.bipush (-2), 2) := by decide +kernel
theorem dX7_partOf_68 : decode cX7_partOf 68 = .ok (.ireturn, 1) := by decide +kernel
theorem dX7_now_0 : decode cX7_now 0 = .ok (.iconst 0, 1) := by decide +kernel
theorem dX7_now_1 : decode cX7_now 1 = .ok (.istore_n 1, 1) := by decide +kernel
theorem dX7_now_2 : decode cX7_now 2 = .ok (.iconst 0, 1) := by decide +kernel
theorem dX7_now_3 : decode cX7_now 3 = .ok (.istore_n 2, 1) := by decide +kernel
theorem dX7_now_4 : decode cX7_now 4 = .ok (.iload_n 2, 1) := by decide +kernel
theorem dX7_now_5 : decode cX7_now 5 = .ok (.aload_n 0, 1) := by decide +kernel
theorem dX7_now_6 : decode cX7_now 6 = .ok (.getfield 7, 3) := by decide +kernel
theorem dX7_now_9 : decode cX7_now 9 = .ok (.if_icmp .ge 47, 3) := by decide +kernel
theorem dX7_now_12 : decode cX7_now 12 = .ok (.iload_n 1, 1) := by decide +kernel
theorem dX7_now_13 : decode cX7_now 13 = .ok (.aload_n 0, 1) := by decide +kernel
theorem dX7_now_14 : decode cX7_now 14 = .ok (.getfield 52, 3) := by decide +kernel
theorem dX7_now_17 : decode cX7_now 17 = .ok (.iload_n 2, 1) := by decide +kernel
theorem dX7_now_18 : decode cX7_now 18 = .ok (.iaload, 1) := by decide +kernel
theorem dX7_now_19 : decode cX7_now 19 = .ok (.aload_n 0, 1) := by decide +kernel
theorem dX7_now_20 : decode cX7_now 20 = .ok (.getfield 30, 3) := by decide +kernel
theorem dX7_now_23 : decode cX7_now 23 = .ok (.iload_n 2, 1) := by decide +kernel
theorem dX7_now_24 : decode cX7_now 24 = .ok (.iaload, 1) := by decide +kernel
theorem dX7_now_25 : decode cX7_now 25 = .ok (.iconst 1, 1) := by decide +kernel
theorem dX7_now_26 : decode cX7_now 26 = .ok (.if_icmp .ne 7, 3) := by decide +kernel
theorem dX7_now_29 : decode cX7_now 29 = .ok (.iconst 1, 1) := by decide +kernel
theorem dX7_now_30 : decode cX7_now 30 = .ok (.goto 17, 3) := by decide +kernel
theorem dX7_now_33 : decode cX7_now 33 = .ok (.aload_n 0, 1) := by decide +kernel
theorem dX7_now_34 : decode cX7_now 34 = .ok (.getfield 30, 3) := by decide +kernel
theorem dX7_now_37 : decode cX7_now 37 = .ok (.iload_n 2, 1) := by decide +kernel
theorem dX7_now_38 : decode cX7_now 38 = .ok (.iaload, 1) := by decide +kernel
theorem dX7_now_39 : decode cX7_now 39 = .ok (.ifCond .ne 7, 3) := by decide +kernel
theorem dX7_now_42 : decode cX7_now 42 = .ok (.iconst 2, 1) := by decide +kernel
theorem dX7_now_43 : decode cX7_now 43 = .ok (.goto 4, 3) := by decide +kernel
theorem dX7_now_46 : decode cX7_now 46 = .ok (.iconst 0, 1) := by decide +kernel
theorem dX7_now_47 : decode cX7_now 47 = .ok (.imul, 1) := by decide +kernel
theorem dX7_now_48 : decode cX7_now 48 = .ok (.iadd, 1) := by decide +kernel
theorem dX7_now_49 : decode cX7_now 49 = .ok (.istore_n 1, 1) := by decide +kernel
theorem dX7_now_50 : decode cX7_now 50 = .ok (.iinc 2 1, 3) := by decide +kernel
theorem dX7_now_53 : decode cX7_now 53 = .ok (.goto (-49), 3) := by decide +kernel
theorem dX7_now_56 : decode cX7_now 56 = .ok (.iload_n 1, 1) := by decide +kernel
theorem dX7_now_57 : decode cX7_now 57 = .ok (.ireturn, 1) := by decide +kernel
theorem dX7_digit_0 : decode cX7_digit 0 = .ok (.iload_n 1, 1) := by decide +kernel
theorem dX7_digit_1 : decode cX7_digit 1 = .ok (.aload_n 0, 1) := by decide +kernel
theorem dX7_digit_2 : decode cX7_digit 2 = .ok (.getfield 52, 3) := by decide +kernel
theorem dX7_digit_5 : decode cX7_digit 5 = .ok (.iload_n 2, 1) := by decide +kernel
theorem dX7_digit_6 : decode cX7_digit 6 = .ok (.iaload, 1) := by decide +kernel
theorem dX7_digit_7 : decode cX7_digit 7 = .ok (.idiv, 1) := by decide +kernel
theorem dX7_digit_8 : decode cX7_digit 8 = .ok (.iconst 3, 1) := by decide +kernel
theorem dX7_digit_9 : decode cX7_digit 9 = .ok (.irem, 1) := by decide +kernel
theorem dX7_digit_10 : decode cX7_digit 10 = .ok (.ireturn, 1) := by decide +kernel
set_option maxRecDepth 20000 in
theorem ggX7_setOf_X7_digit : GoodIn wsX7_setOf wsX7_digit := goodIn_r _ [6, 7, 8, 9, 10, 11, 12, 13, 14, 15, 16, 17, 18, 19, 20, 21, 22, 23, 24] rfl (by decide +kernel)
set_option maxRecDepth 20000 in
theorem gX7_setOf_X7_digit : GoodIn wsX7_setOf (wsV RX7 102 RX7 yX7_digit wsX7_digit) := goodIn_app (goodIn_of _ (by decide +kernel)) ggX7_setOf_X7_digit
theorem dX7_setOf_0 : decode cX7_setOf 0 = .ok (.iconst 0, 1) := by decide +kernel
theorem dX7_setOf_1 : decode cX7_setOf 1 = .ok (.istore_n 3, 1) := by decide +kernel
theorem dX7_setOf_2 : decode cX7_setOf 2 = .ok (.iconst 0, 1) := by decide +kernel
theorem dX7_setOf_3 : decode cX7_setOf 3 = .ok (.istore 4, 2) := by decide +kernel
theorem dX7_setOf_5 : decode cX7_setOf 5 = .ok (.iload 4, 2) := by decide +kernel
theorem dX7_setOf_7 : decode cX7_setOf 7 = .ok (.aload_n 0, 1) := by decide +kernel
theorem dX7_setOf_8 : decode cX7_setOf 8 = .ok (.getfield 7, 3) := by decide +kernel
theorem dX7_setOf_11 : decode cX7_setOf 11 = .ok (.if_icmp .ge 31, 3) := by decide +kernel
theorem dX7_setOf_14 : decode cX7_setOf 14 = .ok (.iload_n 3, 1) := by decide +kernel
theorem dX7_setOf_15 : decode cX7_setOf 15 = .ok (.aload_n 0, 1) := by decide +kernel
theorem dX7_setOf_16 : decode cX7_setOf 16 = .ok (.iload_n 1, 1) := by decide +kernel
theorem dX7_setOf_17 : decode cX7_setOf 17 = .ok (.iload 4, 2) := by decide +kernel
theorem dX7_setOf_19 : decode cX7_setOf 19 = .ok (.invokevirtual 102, 3) := by decide +kernel
theorem dX7_setOf_22 : decode cX7_setOf 22 = .ok (.iload_n 2, 1) := by decide +kernel
theorem dX7_setOf_23 : decode cX7_setOf 23 = .ok (.if_icmp .ne 10, 3) := by decide +kernel
theorem dX7_setOf_26 : decode cX7_setOf 26 = .ok (.iconst 1, 1) := by decide +kernel
theorem dX7_setOf_27 : decode cX7_setOf 27 = .ok (.iload 4, 2) := by decide +kernel
theorem dX7_setOf_29 : decode cX7_setOf 29 = .ok (.ishl, 1) := by decide +kernel
theorem dX7_setOf_30 : decode cX7_setOf 30 = .ok (.goto 4, 3) := by decide +kernel
theorem dX7_setOf_33 : decode cX7_setOf 33 = .ok (.iconst 0, 1) := by decide +kernel
theorem dX7_setOf_34 : decode cX7_setOf 34 = .ok (.iadd, 1) := by decide +kernel
theorem dX7_setOf_35 : decode cX7_setOf 35 = .ok (.istore_n 3, 1) := by decide +kernel
theorem dX7_setOf_36 : decode cX7_setOf 36 = .ok (.iinc 4 1, 3) := by decide +kernel
theorem dX7_setOf_39 : decode cX7_setOf 39 = .ok (.goto (-34), 3) := by decide +kernel
theorem dX7_setOf_42 : decode cX7_setOf 42 = .ok (.iload_n 3, 1) := by decide +kernel
theorem dX7_setOf_43 : decode cX7_setOf 43 = .ok (.ireturn, 1) := by decide +kernel
set_option maxRecDepth 20000 in
theorem ggX7_sureAt_X7_setOf : GoodIn wsX7_sureAt wsX7_setOf := goodIn_r _ [5, 6, 7, 8, 9, 4, 10, 11, 22, 23, 24, 25, 26, 27, 28, 29, 30, 31, 32, 33, 34, 35, 36, 37, 38] rfl (by decide +kernel)
set_option maxRecDepth 20000 in
theorem gX7_sureAt_X7_setOf : GoodIn wsX7_sureAt (wsV RX7 106 RX7 yX7_setOf wsX7_setOf) := goodIn_app (goodIn_of _ (by decide +kernel)) ggX7_sureAt_X7_setOf
set_option maxRecDepth 20000 in
theorem ggX7_sureAt_X7_isGood : GoodIn wsX7_sureAt wsX7_isGood := goodIn_r _ [15, 16, 17, 22, 23, 24, 25, 26, 27, 28, 29, 30, 31, 32, 33, 34, 35, 36, 37, 38] rfl (by decide +kernel)
set_option maxRecDepth 20000 in
theorem gX7_sureAt_X7_isGood : GoodIn wsX7_sureAt (wsV RX7 94 RX7 yX7_isGood wsX7_isGood) := goodIn_app (goodIn_of _ (by decide +kernel)) ggX7_sureAt_X7_isGood
set_option maxRecDepth 20000 in
theorem ggX7_sureAt_X7_settings : GoodIn wsX7_sureAt wsX7_settings := goodIn_r _ [21, 6, 22, 23, 24, 25, 26, 27, 28, 29, 30, 31, 32, 33, 34, 35, 36, 37, 38] rfl (by decide +kernel)
set_option maxRecDepth 20000 in
theorem gX7_sureAt_X7_settings : GoodIn wsX7_sureAt (wsV RX7 76 RX7 yX7_settings wsX7_settings) := goodIn_app (goodIn_of _ (by decide +kernel)) ggX7_sureAt_X7_settings
theorem dX7_sureAt_0 : decode cX7_sureAt 0 = .ok (.aload_n 0, 1) := by decide +kernel
theorem dX7_sureAt_1 : decode cX7_sureAt 1 = .ok (.aload_n 0, 1) := by decide +kernel
theorem dX7_sureAt_2 : decode cX7_sureAt 2 = .ok (.iload_n 1, 1) := by decide +kernel
theorem dX7_sureAt_3 : decode cX7_sureAt 3 = .ok (.iconst 1, 1) := by decide +kernel
theorem dX7_sureAt_4 : decode cX7_sureAt 4 = .ok (.invokevirtual 106, 3) := by decide +kernel
theorem dX7_sureAt_7 : decode cX7_sureAt 7 = .ok (.invokevirtual 94, 3) := by decide +kernel
theorem dX7_sureAt_10 : decode cX7_sureAt 10 = .ok (.ifCond .eq 5, 3) := by decide +kernel
theorem dX7_sureAt_13 : decode cX7_sureAt 13 = .ok (.iconst 1, 1) := by decide +kernel
theorem dX7_sureAt_14 : decode cX7_sureAt 14 = .ok (.ireturn, 1) := by decide +kernel
theorem dX7_sureAt_15 : decode cX7_sureAt 15 = .ok (.aload_n 0, 1) := by decide +kernel
