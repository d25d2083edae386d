theorem dX7_ratios_91 : decode cX7_ratios 91 = .ok (.getfield 64, 3) := by decide +kernel
theorem dX7_ratios_94 : decode cX7_ratios 94 = .ok (.iload_n 3, 1) := by decide +kernel
theorem dX7_ratios_95 : decode cX7_ratios 95 = .ok (.iastore, 1) := by decide +kernel
theorem dX7_ratios_96 : decode cX7_ratios 96 = .ok (.aload_n 0, 1) := by decide +kernel
theorem dX7_ratios_97 : decode cX7_ratios 97 = .ok (.dup, 1) := by decide +kernel
theorem dX7_ratios_98 : decode cX7_ratios 98 = .ok (.getfield 64, 3) := by decide +kernel
theorem dX7_ratios_101 : decode cX7_ratios 101 = .ok (.iconst 1, 1) := by decide +kernel
theorem dX7_ratios_102 : decode cX7_ratios 102 = .ok (.iadd, 1) := by decide +kernel
theorem dX7_ratios_103 : decode cX7_ratios 103 = .ok (.putfield 64, 3) := by decide +kernel
theorem dX7_ratios_106 : decode cX7_ratios 106 = .ok (.goto (-101), 3) := by decide +kernel
theorem dX7_ratios_109 : decode cX7_ratios 109 = .ok (.aload_n 0, 1) := by decide +kernel
theorem dX7_ratios_110 : decode cX7_ratios 110 = .ok (.getfield 64, 3) := by decide +kernel
theorem dX7_ratios_113 : decode cX7_ratios 113 = .ok (.ireturn, 1) := by decide +kernel
theorem dX7_ratioUp_0 : decode cX7_ratioUp 0 = .ok (.aload_n 0, 1) := by decide +kernel
theorem dX7_ratioUp_1 : decode cX7_ratioUp 1 = .ok (.getfield 20, 3) := by decide +kernel
theorem dX7_ratioUp_4 : decode cX7_ratioUp 4 = .ok (.iload_n 1, 1) := by decide +kernel
theorem dX7_ratioUp_5 : decode cX7_ratioUp 5 = .ok (.iaload, 1) := by decide +kernel
theorem dX7_ratioUp_6 : decode cX7_ratioUp 6 = .ok (.aload_n 0, 1) := by decide +kernel
theorem dX7_ratioUp_7 : decode cX7_ratioUp 7 = .ok (.getfield 13, 3) := by decide +kernel
theorem dX7_ratioUp_10 : decode cX7_ratioUp 10 = .ok (.iload_n 1, 1) := by decide +kernel
theorem dX7_ratioUp_11 : decode cX7_ratioUp 11 = .ok (.iaload, 1) := by decide +kernel
theorem dX7_ratioUp_12 : decode cX7_ratioUp 12 = .ok (.aload_n 0, 1) := by decide +kernel
theorem dX7_ratioUp_13 : decode cX7_ratioUp 13 = .ok (.getfield 17, 3) := by decide +kernel
theorem dX7_ratioUp_16 : decode cX7_ratioUp 16 = .ok (.iload_n 1, 1) := by decide +kernel
theorem dX7_ratioUp_17 : decode cX7_ratioUp 17 = .ok (.iaload, 1) := by decide +kernel
theorem dX7_ratioUp_18 : decode cX7_ratioUp 18 = .ok (.iadd, 1) := by decide +kernel
theorem dX7_ratioUp_19 : decode cX7_ratioUp 19 = .ok (.imul, 1) := by decide +kernel
theorem dX7_ratioUp_20 : decode cX7_ratioUp 20 = .ok (.ireturn, 1) := by decide +kernel
theorem dX7_down_0 : decode cX7_down 0 = .ok (.iload_n 2, 1) := by decide +kernel
theorem dX7_down_1 : decode cX7_down 1 = .ok (.ifCond .eq 12, 3) := by decide +kernel
theorem dX7_down_4 : decode cX7_down 4 = .ok (.aload_n 0, 1) := by decide +kernel
theorem dX7_down_5 : decode cX7_down 5 = .ok (.getfield 13, 3) := by decide +kernel
theorem dX7_down_8 : decode cX7_down 8 = .ok (.iload_n 1, 1) := by decide +kernel
theorem dX7_down_9 : decode cX7_down 9 = .ok (.iaload, 1) := by decide +kernel
theorem dX7_down_10 : decode cX7_down 10 = .ok (.goto 9, 3) := by decide +kernel
theorem dX7_down_13 : decode cX7_down 13 = .ok (.aload_n 0, 1) := by decide +kernel
theorem dX7_down_14 : decode cX7_down 14 = .ok (.getfield 17, 3) := by decide +kernel
theorem dX7_down_17 : decode cX7_down 17 = .ok (.iload_n 1, 1) := by decide +kernel
theorem dX7_down_18 : decode cX7_down 18 = .ok (.iaload, 1) := by decide +kernel
theorem dX7_down_19 : decode cX7_down 19 = .ok (.ireturn, 1) := by decide +kernel
set_option maxRecDepth 20000 in
theorem ggX7_ordered_X7_in : GoodIn wsX7_ordered wsX7_in := goodIn_r _ [6] rfl (by decide +kernel)
set_option maxRecDepth 20000 in
theorem gX7_ordered_X7_in : GoodIn wsX7_ordered (va_wsS RX7 55 yX7_in wsX7_in) := goodIn_app (goodIn_of _ (by decide +kernel)) ggX7_ordered_X7_in
theorem dX7_ordered_0 : decode cX7_ordered 0 = .ok (.iload_n 1, 1) := by decide +kernel
theorem dX7_ordered_1 : decode cX7_ordered 1 = .ok (.i2l, 1) := by decide +kernel
theorem dX7_ordered_2 : decode cX7_ordered 2 = .ok (.lconst 0, 1) := by decide +kernel
theorem dX7_ordered_3 : decode cX7_ordered 3 = .ok (.aload_n 0, 1) := by decide +kernel
theorem dX7_ordered_4 : decode cX7_ordered 4 = .ok (.getfield 64, 3) := by decide +kernel
theorem dX7_ordered_7 : decode cX7_ordered 7 = .ok (.iconst 1, 1) := by decide +kernel
theorem dX7_ordered_8 : decode cX7_ordered 8 = .ok (.isub, 1) := by decide +kernel
theorem dX7_ordered_9 : decode cX7_ordered 9 = .ok (.i2l, 1) := by decide +kernel
theorem dX7_ordered_10 : decode cX7_ordered 10 = .ok (.invokestatic 55, 3) := by decide +kernel
theorem dX7_ordered_13 : decode cX7_ordered 13 = .ok (.ifCond .eq 12, 3) := by decide +kernel
theorem dX7_ordered_16 : decode cX7_ordered 16 = .ok (.aload_n 0, 1) := by decide +kernel
theorem dX7_ordered_17 : decode cX7_ordered 17 = .ok (.getfield 33, 3) := by decide +kernel
theorem dX7_ordered_20 : decode cX7_ordered 20 = .ok (.iload_n 1, 1) := by decide +kernel
theorem dX7_ordered_21 : decode cX7_ordered 21 = .ok (.iaload, 1) := by decide +kernel
theorem dX7_ordered_22 : decode cX7_ordered 22 = .ok (.goto 4, 3) := by decide +kernel
theorem dX7_ordered_25 : decode cX7_ordered 25 = .ok (.iconst (-1), 1) := by decide +kernel
theorem dX7_ordered_26 : decode cX7_ordered 26 = .ok (.ireturn, 1) := by decide +kernel
set_option maxRecDepth 20000 in
theorem ggX7_run_X7_now : GoodIn wsX7_run wsX7_now := goodIn_r _ [13, 14, 8, 15, 70, 71, 72, 73, 74, 75, 76, 77, 78, 79, 80, 81, 82, 83, 84, 85, 86] rfl (by decide +kernel)
set_option maxRecDepth 20000 in
theorem gX7_run_X7_now : GoodIn wsX7_run (wsV RX7 109 RX7 yX7_now wsX7_now) := goodIn_app (goodIn_of _ (by decide +kernel)) ggX7_run_X7_now
set_option maxRecDepth 20000 in
theorem ggX7_run_X7_in : GoodIn wsX7_run wsX7_in := goodIn_r _ [18] rfl (by decide +kernel)
set_option maxRecDepth 20000 in
theorem gX7_run_X7_in : GoodIn wsX7_run (va_wsS RX7 55 yX7_in wsX7_in) := goodIn_app (goodIn_of _ (by decide +kernel)) ggX7_run_X7_in
set_option maxRecDepth 20000 in
theorem ggX7_run_X7_settings : GoodIn wsX7_run wsX7_settings := goodIn_r _ [22, 14, 70, 71, 72, 73, 74, 75, 76, 77, 78, 79, 80, 81, 82, 83, 84, 85, 86] rfl (by decide +kernel)
set_option maxRecDepth 20000 in
theorem gX7_run_X7_settings : GoodIn wsX7_run (wsV RX7 76 RX7 yX7_settings wsX7_settings) := goodIn_app (goodIn_of _ (by decide +kernel)) ggX7_run_X7_settings
set_option maxRecDepth 20000 in
theorem ggX7_run_X7_isSuch : GoodIn wsX7_run wsX7_isSuch := goodIn_r _ [26, 14, 27, 28, 29, 12, 30, 8, 70, 71, 72, 73, 74, 75, 76, 77, 78, 79, 80, 81, 82, 83, 84, 85, 86] rfl (by decide +kernel)
set_option maxRecDepth 20000 in
theorem gX7_run_X7_isSuch : GoodIn wsX7_run (wsV RX7 141 RX7 yX7_isSuch wsX7_isSuch) := goodIn_app (goodIn_of _ (by decide +kernel)) ggX7_run_X7_isSuch
set_option maxRecDepth 20000 in
theorem ggX7_run_X7_plans : GoodIn wsX7_run wsX7_plans := goodIn_r _ [34, 14, 8, 35, 36, 37, 12, 38, 27, 28, 29, 30, 39, 40, 41, 42, 43, 44, 4, 5, 7, 45, 46, 47, 48, 49, 50, 51, 52, 53, 54, 55, 56, 57, 2, 19, 20, 21, 22, 58, 59, 60, 61, 62, 63, 70, 71, 72, 73, 74, 75, 76, 77, 78, 79, 80, 81, 82, 83, 84, 85, 86] rfl (by decide +kernel)
set_option maxRecDepth 20000 in
theorem gX7_run_X7_plans : GoodIn wsX7_run (wsV RX7 138 RX7 yX7_plans wsX7_plans) := goodIn_app (goodIn_of _ (by decide +kernel)) ggX7_run_X7_plans
set_option maxRecDepth 20000 in
theorem ggX7_run_X7_sureAt : GoodIn wsX7_run wsX7_sureAt := goodIn_r _ [48, 49, 50, 51, 12, 52, 14, 27, 28, 29, 30, 8, 53, 54, 55, 56, 57, 2, 19, 20, 21, 22, 70, 71, 72, 73, 74, 75, 76, 77, 78, 79, 80, 81, 82, 83, 84, 85, 86] rfl (by decide +kernel)
set_option maxRecDepth 20000 in
theorem gX7_run_X7_sureAt : GoodIn wsX7_run (wsV RX7 112 RX7 yX7_sureAt wsX7_sureAt) := goodIn_app (goodIn_of _ (by decide +kernel)) ggX7_run_X7_sureAt
set_option maxRecDepth 20000 in
theorem ggX7_run_X7_orderNext : GoodIn wsX7_run wsX7_orderNext := goodIn_r _ [67, 68, 69, 14, 27, 28, 29, 12, 30, 8, 70, 71, 72, 73, 74, 75, 76, 77, 78, 79, 80, 81, 82, 83, 84, 85, 86] rfl (by decide +kernel)
set_option maxRecDepth 20000 in
theorem gX7_run_X7_orderNext : GoodIn wsX7_run (wsV RX7 127 RX7 yX7_orderNext wsX7_orderNext) := goodIn_app (goodIn_of _ (by decide +kernel)) ggX7_run_X7_orderNext
theorem dX7_run_0 : decode cX7_run 0 = .ok (.aload_n 0, 1) := by decide +kernel
theorem dX7_run_1 : decode cX7_run 1 = .ok (.invokevirtual 109, 3) := by decide +kernel
theorem dX7_run_4 : decode cX7_run 4 = .ok (.istore_n 3, 1) := by decide +kernel
theorem dX7_run_5 : decode cX7_run 5 = .ok (.iload_n 1, 1) := by decide +kernel
theorem dX7_run_6 : decode cX7_run 6 = .ok (.i2l, 1) := by decide +kernel
theorem dX7_run_7 : decode cX7_run 7 = .ok (.lconst 0, 1) := by decide +kernel
theorem dX7_run_8 : decode cX7_run 8 = .ok (.ldc2_w 134, 3) := by decide +kernel
theorem dX7_run_11 : decode cX7_run 11 = .ok (.invokestatic 55, 3) := by decide +kernel
theorem dX7_run_14 : decode cX7_run 14 = .ok (.ifCond .eq 35, 3) := by decide +kernel
theorem dX7_run_17 : decode cX7_run 17 = .ok (.iload_n 2, 1) := by decide +kernel
theorem dX7_run_18 : decode cX7_run 18 = .ok (.i2l, 1) := by decide +kernel
theorem dX7_run_19 : decode cX7_run 19 = .ok (.lconst 0, 1) := by decide +kernel
theorem dX7_run_20 : decode cX7_run 20 = .ok (.aload_n 0, 1) := by decide +kernel
theorem dX7_run_21 : decode cX7_run 21 = .ok (.invokevirtual 76, 3) := by decide +kernel
theorem dX7_run_24 : decode cX7_run 24 = .ok (.iconst 1, 1) := by decide +kernel
theorem dX7_run_25 : decode cX7_run 25 = .ok (.isub, 1) := by decide +kernel
theorem dX7_run_26 : decode cX7_run 26 = .ok (.i2l, 1) := by decide +kernel
theorem dX7_run_27 : decode cX7_run 27 = .ok (.invokestatic 55, 3) := by decide +kernel
theorem dX7_run_30 : decode cX7_run 30 = .ok (.ifCond .eq 19, 3) := by decide +kernel
theorem dX7_run_33 : decode cX7_run 33 = .ok (.aload_n 0, 1) := by decide +kernel
theorem dX7_run_34 : decode cX7_run 34 = .ok (.getfield 27, 3) := by decide +kernel
theorem dX7_run_37 : decode cX7_run 37 = .ok (.ifCond .lt 12, 3) := by decide +kernel
theorem dX7_run_40 : decode cX7_run 40 = .ok (.aload_n 0, 1) := by decide +kernel
theorem dX7_run_41 : decode cX7_run 41 = .ok (.iload_n 2, 1) := by decide +kernel
theorem dX7_run_42 : decode cX7_run 42 = .ok (.iload_n 3, 1) := by decide +kernel
theorem dX7_run_43 : decode cX7_run 43 = .ok (.invokevirtual 141, 3) := by decide +kernel
theorem dX7_run_46 : decode cX7_run 46 = .ok (.ifCond .ne 5, 3) := by decide +kernel
theorem dX7_run_49 : decode cX7_run 49 = .ok (.iconst (-1), 1) := by decide +kernel
theorem dX7_run_50 : decode cX7_run 50 = .ok (.ireturn, 1) := by decide +kernel
theorem dX7_run_51 : decode cX7_run 51 = .ok (.iload_n 1, 1) := by decide +kernel
theorem dX7_run_52 : decode cX7_run 52 = .ok (.iconst 2, 1) := by decide +kernel
theorem dX7_run_53 : decode cX7_run 53 = .ok (.if_icmp .ge 7, 3) := by decide +kernel
theorem dX7_run_56 : decode cX7_run 56 = .ok (.aload_n 0, 1) := by decide +kernel
theorem dX7_run_57 : decode cX7_run 57 = .ok (.invokevirtual 138, 3) := by decide +kernel
theorem dX7_run_60 : decode cX7_run 60 = .ok (.iconst 0, 1) := by decide +kernel
theorem dX7_run_61 : decode cX7_run 61 = .ok (.istore 4, 2) := by decide +kernel
theorem dX7_run_63 : decode cX7_run 63 = .ok (.aload_n 0, 1) := by decide +kernel
theorem dX7_run_64 : decode cX7_run 64 = .ok (.iconst 0, 1) := by decide +kernel
theorem dX7_run_65 : decode cX7_run 65 = .ok (.putfield 67, 3) := by decide +kernel
theorem dX7_run_68 : decode cX7_run 68 = .ok (.aload_n 0, 1) := by decide +kernel
theorem dX7_run_69 : decode cX7_run 69 = .ok (.iload_n 3, 1) := by decide +kernel
theorem dX7_run_70 : decode cX7_run 70 = .ok (.invokevirtual 112, 3) := by decide +kernel
theorem dX7_run_73 : decode cX7_run 73 = .ok (.iconst (-1), 1) := by decide +kernel
theorem dX7_run_74 : decode cX7_run 74 = .ok (.if_icmp .ne 99, 3) := by decide +kernel
theorem dX7_run_77 : decode cX7_run 77 = .ok (.iload_n 1, 1) := by decide +kernel
theorem dX7_run_78 : decode cX7_run 78 = .ok (.ifCond .ne 12, 3) := by decide +kernel
theorem dX7_run_81 : decode cX7_run 81 = .ok (.aload_n 0, 1) := by decide +kernel
theorem dX7_run_82 : decode cX7_run 82 = .ok (.getfield 43, 3) := by decide +kernel
theorem dX7_run_85 : decode cX7_run 85 = .ok (.iload_n 3, 1) := by decide +kernel
theorem dX7_run_86 : decode cX7_run 86 = .ok (.iaload, 1) := by decide +kernel
theorem dX7_run_87 : decode cX7_run 87 = .ok (.goto 22, 3) := by decide +kernel
theorem dX7_run_90 : decode cX7_run 90 = .ok (.iload_n 1, 1) := by decide +kernel
theorem dX7_run_91 : decode cX7_run 91 = .ok (.iconst 1, 1) := by decide +kernel
theorem dX7_run_92 : decode cX7_run 92 = .ok (.if_icmp .ne 12, 3) := by decide +kernel
theorem dX7_run_95 : decode cX7_run 95 = .ok (.aload_n 0, 1) := by decide +kernel
theorem dX7_run_96 : decode cX7_run 96 = .ok (.getfield 49, 3) := by decide +kernel
theorem dX7_run_99 : decode cX7_run 99 = .ok (.iload_n 3, 1) := by decide +kernel
theorem dX7_run_100 : decode cX7_run 100 = .ok (.iaload, 1) := by decide +kernel
theorem dX7_run_101 : decode cX7_run 101 = .ok (.goto 8, 3) := by decide +kernel
theorem dX7_run_104 : decode cX7_run 104 = .ok (.aload_n 0, 1) := by decide +kernel
theorem dX7_run_105 : decode cX7_run 105 = .ok (.iload_n 3, 1) := by decide +kernel
theorem dX7_run_106 : decode cX7_run 106 = .ok (.invokevirtual 127, 3) := by decide +kernel
theorem dX7_run_109 : decode cX7_run 109 = .ok (.istore 5, 2) := by decide +kernel
theorem dX7_run_111 : decode cX7_run 111 = .ok (.aload_n 0, 1) := by decide +kernel
theorem dX7_run_112 : decode cX7_run 112 = .ok (.getfield 36, 3) := by decide +kernel
theorem dX7_run_115 : decode cX7_run 115 = .ok (.aload_n 0, 1) := by decide +kernel
theorem dX7_run_116 : decode cX7_run 116 = .ok (.getfield 67, 3) := by decide +kernel
theorem dX7_run_119 : decode cX7_run 119 = .ok (.iload 5, 2) := by decide +kernel
theorem dX7_run_121 : decode cX7_run 121 = .ok (.iastore, 1) := by decide +kernel
theorem dX7_run_122 : decode cX7_run 122 = .ok (.aload_n 0, 1) := by decide +kernel
theorem dX7_run_123 : decode cX7_run 123 = .ok (.dup, 1) := by decide +kernel
theorem dX7_run_124 : decode cX7_run 124 = .ok (.getfield 67, 3) := by decide +kernel
theorem dX7_run_127 : decode cX7_run 127 = .ok (.iconst 1, 1) := by decide +kernel
theorem dX7_run_128 : decode cX7_run 128 = .ok (.iadd, 1) := by decide +kernel
theorem dX7_run_129 : decode cX7_run 129 = .ok (.putfield 67, 3) := by decide +kernel
theorem dX7_run_132 : decode cX7_run 132 = .ok (.iload 4, 2) := by decide +kernel
theorem dX7_run_134 : decode cX7_run 134 = .ok (.aload_n 0, 1) := by decide +kernel
theorem dX7_run_135 : decode cX7_run 135 = .ok (.getfield 20, 3) := by decide +kernel
theorem dX7_run_138 : decode cX7_run 138 = .ok (.iload 5, 2) := by decide +kernel
theorem dX7_run_140 : decode cX7_run 140 = .ok (.iaload, 1) := by decide +kernel
theorem dX7_run_141 : decode cX7_run 141 = .ok (.iadd, 1) := by decide +kernel
theorem dX7_run_142 : decode cX7_run 142 = .ok (.istore 4, 2) := by decide +kernel
theorem dX7_run_144 : decode cX7_run 144 = .ok (.iload_n 3, 1) := by decide +kernel
theorem dX7_run_145 : decode cX7_run 145 = .ok (.aload_n 0, 1) := by decide +kernel
theorem dX7_run_146 : decode cX7_run 146 = .ok (.getfield 52, 3) := by decide +kernel
theorem dX7_run_149 : decode cX7_run 149 = .ok (.iload 5, 2) := by decide +kernel
theorem dX7_run_151 : decode cX7_run 151 = .ok (.iaload, 1) := by decide +kernel
theorem dX7_run_152 : decode cX7_run 152 = .ok (.iload_n 2, 1) := by decide +kernel
theorem dX7_run_153 : decode cX7_run 153 = .ok (.iload 5, 2) := by decide +kernel
theorem dX7_run_155 : decode cX7_run 155 = .ok (.ishr, 1) := by decide +kernel
theorem dX7_run_156 : decode cX7_run 156 = .ok (.iconst 1, 1) := by decide +kernel
theorem dX7_run_157 : decode cX7_run 157 = .ok (.iand, 1) := by decide +kernel
theorem dX7_run_158 : decode cX7_run 158 = .ok (.iconst 1, 1) := by decide +kernel
theorem dX7_run_159 : decode cX7_run 159 = .ok (.if_icmp .ne 7, 3) := by decide +kernel
theorem dX7_run_162 : decode cX7_run 162 = .ok (.iconst 1, 1) := by decide +kernel
theorem dX7_run_163 : decode cX7_run 163 = .ok (.goto 4, 3) := by decide +kernel
theorem dX7_run_166 : decode cX7_run 166 = .ok (.iconst 2, 1) := by decide +kernel
theorem dX7_run_167 : decode cX7_run 167 = .ok (.imul, 1) := by decide +kernel
theorem dX7_run_168 : decode cX7_run 168 = .ok (.iadd, 1) := by decide +kernel
theorem dX7_run_169 : decode cX7_run 169 = .ok (.istore_n 3, 1) := by decide +kernel
theorem dX7_run_170 : decode cX7_run 170 = .ok (.goto (-102), 3) := by decide +kernel
theorem dX7_run_173 : decode cX7_run 173 = .ok (.iload 4, 2) := by decide +kernel
theorem dX7_run_175 : decode cX7_run 175 = .ok (.ireturn, 1) := by decide +kernel
set_option maxRecDepth 20000 in
theorem ggX7_looked_X7_in : GoodIn wsX7_looked wsX7_in := goodIn_r _ [6] rfl (by decide +kernel)
set_option maxRecDepth 20000 in
theorem gX7_looked_X7_in : GoodIn wsX7_looked (va_wsS RX7 55 yX7_in wsX7_in) := goodIn_app (goodIn_of _ (by decide +kernel)) ggX7_looked_X7_in
theorem dX7_looked_0 : decode cX7_looked 0 = .ok (.iload_n 1, 1) := by decide +kernel
theorem dX7_looked_1 : decode cX7_looked 1 = .ok (.i2l, 1) := by decide +kernel
theorem dX7_looked_2 : decode cX7_looked 2 = .ok (.lconst 0, 1) := by decide +kernel
theorem dX7_looked_3 : decode cX7_looked 3 = .ok (.aload_n 0, 1) := by decide +kernel
theorem dX7_looked_4 : decode cX7_looked 4 = .ok (.getfield 67, 3) := by decide +kernel
theorem dX7_looked_7 : decode cX7_looked 7 = .ok (.iconst 1, 1) := by decide +kernel
theorem dX7_looked_8 : decode cX7_looked 8 = .ok (.isub, 1) := by decide +kernel
theorem dX7_looked_9 : decode cX7_looked 9 = .ok (.i2l, 1) := by decide +kernel
theorem dX7_looked_10 : decode cX7_looked 10 = .ok (.invokestatic 55, 3) := by decide +kernel
theorem dX7_looked_13 : decode cX7_looked 13 = .ok (.ifCond .eq 12, 3) := by decide +kernel
theorem dX7_looked_16 : decode cX7_looked 16 = .ok (.aload_n 0, 1) := by decide +kernel
theorem dX7_looked_17 : decode cX7_looked 17 = .ok (.getfield 36, 3) := by decide +kernel
theorem dX7_looked_20 : decode cX7_looked 20 = .ok (.iload_n 1, 1) := by decide +kernel
theorem dX7_looked_21 : decode cX7_looked 21 = .ok (.iaload, 1) := by decide +kernel
theorem dX7_looked_22 : decode cX7_looked 22 = .ok (.goto 4, 3) := by decide +kernel
theorem dX7_looked_25 : decode cX7_looked 25 = .ok (.iconst (-1), 1) := by decide +kernel
theorem dX7_looked_26 : decode cX7_looked 26 = .ok (.ireturn, 1) := by decide +kernel
theorem dX7_about_0 : decode cX7_about 0 = .ok (.iload_n 1, 1) := by decide +kernel
theorem dX7_about_1 : decode cX7_about 1 = .ok (.tableswitch 60 0 4 #[35, 40, 45, 50, 55], 35) := by decide +kernel
theorem dX7_about_36 : decode cX7_about 36 = .ok (.aload_n 0, 1) := by decide +kernel
theorem dX7_about_37 : decode cX7_about 37 = .ok (.getfield 7, 3) := by decide +kernel
theorem dX7_about_40 : decode cX7_about 40 = .ok (.ireturn, 1) := by decide +kernel
theorem dX7_about_41 : decode cX7_about 41 = .ok (.aload_n 0, 1) := by decide +kernel
theorem dX7_about_42 : decode cX7_about 42 = .ok (.getfield 59, 3) := by decide +kernel
theorem dX7_about_45 : decode cX7_about 45 = .ok (.ireturn, 1) := by decide +kernel
theorem dX7_about_46 : decode cX7_about 46 = .ok (.aload_n 0, 1) := by decide +kernel
theorem dX7_about_47 : decode cX7_about 47 = .ok (.getfield 27, 3) := by decide +kernel
theorem dX7_about_50 : decode cX7_about 50 = .ok (.ireturn, 1) := by decide +kernel
theorem dX7_about_51 : decode cX7_about 51 = .ok (.aload_n 0, 1) := by decide +kernel
theorem dX7_about_52 : decode cX7_about 52 = .ok (.getfield 64, 3) := by decide +kernel
theorem dX7_about_55 : decode cX7_about 55 = .ok (.ireturn, 1) := by decide +kernel
theorem dX7_about_56 : decode cX7_about 56 = .ok (.aload_n 0, 1) := by decide +kernel
theorem dX7_about_57 : decode cX7_about 57 = .ok (.getfield 67, 3) := by decide +kernel
theorem dX7_about_60 : decode cX7_about 60 = .ok (.ireturn, 1) := by decide +kernel
theorem dX7_about_61 : decode cX7_about 61 = .ok (.iconst (-1), 1) := by decide +kernel
theorem dX7_about_62 : decode cX7_about 62 = .ok (.ireturn, 1) := by decide +kernel
theorem dJ9_max_7cf53_0 : decode cJ9_max_7cf53 0 = .ok (.iload_n 0, 1) := by decide +kernel
theorem dJ9_max_7cf53_1 : decode cJ9_max_7cf53 1 = .ok (.iload_n 1, 1) := by decide +kernel
theorem dJ9_max_7cf53_2 : decode cJ9_max_7cf53 2 = .ok (.if_icmp .lt 7, 3) := by decide +kernel
theorem dJ9_max_7cf53_5 : decode cJ9_max_7cf53 5 = .ok (.iload_n 0, 1) := by decide +kernel
theorem dJ9_max_7cf53_6 : decode cJ9_max_7cf53 6 = .ok (.goto 4, 3) := by decide +kernel
theorem dJ9_max_7cf53_9 : decode cJ9_max_7cf53 9 = .ok (.iload_n 1, 1) := by decide +kernel
theorem dJ9_max_7cf53_10 : decode cJ9_max_7cf53 10 = .ok (.ireturn, 1) := by decide +kernel
theorem dJ9_min_7cf53_0 : decode cJ9_min_7cf53 0 = .ok (.iload_n 0, 1) := by decide +kernel
theorem dJ9_min_7cf53_1 : decode cJ9_min_7cf53 1 = .ok (.iload_n 1, 1) := by decide +kernel
theorem dJ9_min_7cf53_2 : decode cJ9_min_7cf53 2 = .ok (.if_icmp .gt 7, 3) := by decide +kernel
theorem dJ9_min_7cf53_5 : decode cJ9_min_7cf53 5 = .ok (.iload_n 0, 1) := by decide +kernel
theorem dJ9_min_7cf53_6 : decode cJ9_min_7cf53 6 = .ok (.goto 4, 3) := by decide +kernel
theorem dJ9_min_7cf53_9 : decode cJ9_min_7cf53 9 = .ok (.iload_n 1, 1) := by decide +kernel
theorem dJ9_min_7cf53_10 : decode cJ9_min_7cf53 10 = .ok (.ireturn, 1) := by decide +kernel
theorem goodIn_c {big : List Cond} (cs : List (List Cond)) (hc : ∀ r ∈ cs, ∀ w ∈ r, w ∈ big) (ws : List Cond) (ps : List (Nat × Nat)) (hp : ws = ps.filterMap (fun p => (cs[p.1]?).bind (fun r => r[p.2]?))) (h : ws.all goodWord = true) : GoodIn big ws := by
  refine goodIn_sub (fun w hw => ?_) h
  rw [hp] at hw
  obtain ⟨p, -, hp2⟩ := List.mem_filterMap.mp hw
  cases hk : cs[p.1]? with
  | none => rw [hk] at hp2; cases hp2
  | some r =>
    rw [hk] at hp2
    exact hc r (List.mem_of_getElem? hk) w (List.mem_of_getElem? hp2)
def lawC : List (List Cond) := [wsL_law_r1, wsL_law_r2, wsL_law_r3, wsL_law_r4, wsL_law_r5, wsL_law_r6, wsL_law_r7, wsL_law_r8, wsL_law_r9, wsL_law_r10, wsL_law_r11, wsL_law_r12, wsL_law_r13, wsL_law_r14, wsL_law_r15, wsL_law_r16, wsL_law_r17, wsL_law_r18, wsL_law_r19, wsL_law_r20, wsL_law_r21, wsL_law_r22, wsL_law_r23, wsL_law_r24, wsL_law_r25, wsL_law_r26, wsL_law_r27, wsL_law_r28, wsX60, wsX70, wsX40, wsX30, wsX20, wsX10, wsX00, wsX50]
set_option maxRecDepth 20000 in
theorem lawC_in : ∀ r ∈ lawC, ∀ w ∈ r, w ∈ wsL_law := List.forall_mem_cons.mpr ⟨fun w h => List.mem_append_left _ (List.mem_append_left _ (List.mem_append_left _ (List.mem_append_left _ (List.mem_append_left _ (List.mem_append_left _ (List.mem_append_left _ (List.mem_append_left _ (List.mem_append_left _ (List.mem_append_left _ (h)))))))))), List.forall_mem_cons.mpr ⟨fun w h => List.mem_append_left _ (List.mem_append_left _ (List.mem_append_left _ (List.mem_append_left _ (List.mem_append_left _ (List.mem_append_left _ (List.mem_append_left _ (List.mem_append_left _ (List.mem_append_left _ (List.mem_append_right _ (List.mem_append_left _ (h))))))))))), List.forall_mem_cons.mpr ⟨fun w h => List.mem_append_left _ (List.mem_append_left _ (List.mem_append_left _ (List.mem_append_left _ (List.mem_append_left _ (List.mem_append_left _ (List.mem_append_left _ (List.mem_append_left _ (List.mem_append_left _ (List.mem_append_right _ (List.mem_append_right _ (List.mem_append_left _ (h)))))))))))), List.forall_mem_cons.mpr ⟨fun w h => List.mem_append_left _ (List.mem_append_left _ (List.mem_append_left _ (List.mem_append_left _ (List.mem_append_left _ (List.mem_append_left _ (List.mem_append_left _ (List.mem_append_left _ (List.mem_append_left _ (List.mem_append_right _ (List.mem_append_right _ (List.mem_append_right _ (List.mem_append_left _ (h))))))))))))), List.forall_mem_cons.mpr ⟨fun w h => List.mem_append_left _ (List.mem_append_left _ (List.mem_append_left _ (List.mem_append_left _ (List.mem_append_left _ (List.mem_append_left _ (List.mem_append_left _ (List.mem_append_left _ (List.mem_append_left _ (List.mem_append_right _ (List.mem_append_right _ (List.mem_append_right _ (List.mem_append_right _ (List.mem_append_left _ (h)))))))))))))), List.forall_mem_cons.mpr ⟨fun w h => List.mem_append_left _ (List.mem_append_left _ (List.mem_append_left _ (List.mem_append_left _ (List.mem_append_left _ (List.mem_append_left _ (List.mem_append_left _ (List.mem_append_left _ (List.mem_append_left _ (List.mem_append_right _ (List.mem_append_right _ (List.mem_append_right _ (List.mem_append_right _ (List.mem_append_right _ (List.mem_append_left _ (h))))))))))))))), List.forall_mem_cons.mpr ⟨fun w h => List.mem_append_left _ (List.mem_append_left _ (List.mem_append_left _ (List.mem_append_left _ (List.mem_append_left _ (List.mem_append_left _ (List.mem_append_left _ (List.mem_append_left _ (List.mem_append_left _ (List.mem_append_right _ (List.mem_append_right _ (List.mem_append_right _ (List.mem_append_right _ (List.mem_append_right _ (List.mem_append_right _ (List.mem_append_left _ (h)))))))))))))))), List.forall_mem_cons.mpr ⟨fun w h => List.mem_append_left _ (List.mem_append_left _ (List.mem_append_left _ (List.mem_append_left _ (List.mem_append_left _ (List.mem_append_left _ (List.mem_append_left _ (List.mem_append_left _ (List.mem_append_left _ (List.mem_append_right _ (List.mem_append_right _ (List.mem_append_right _ (List.mem_append_right _ (List.mem_append_right _ (List.mem_append_right _ (List.mem_append_right _ (List.mem_append_left _ (h))))))))))))))))), List.forall_mem_cons.mpr ⟨fun w h => List.mem_append_left _ (List.mem_append_left _ (List.mem_append_left _ (List.mem_append_left _ (List.mem_append_left _ (List.mem_append_left _ (List.mem_append_left _ (List.mem_append_left _ (List.mem_append_left _ (List.mem_append_right _ (List.mem_append_right _ (List.mem_append_right _ (List.mem_append_right _ (List.mem_append_right _ (List.mem_append_right _ (List.mem_append_right _ (List.mem_append_right _ (List.mem_append_left _ (h)))))))))))))))))), List.forall_mem_cons.mpr ⟨fun w h => List.mem_append_left _ (List.mem_append_left _ (List.mem_append_left _ (List.mem_append_left _ (List.mem_append_left _ (List.mem_append_left _ (List.mem_append_left _ (List.mem_append_left _ (List.mem_append_left _ (List.mem_append_right _ (List.mem_append_right _ (List.mem_append_right _ (List.mem_append_right _ (List.mem_append_right _ (List.mem_append_right _ (List.mem_append_right _ (List.mem_append_right _ (List.mem_append_right _ (List.mem_append_left _ (h))))))))))))))))))), List.forall_mem_cons.mpr ⟨fun w h => List.mem_append_left _ (List.mem_append_left _ (List.mem_append_left _ (List.mem_append_left _ (List.mem_append_left _ (List.mem_append_left _ (List.mem_append_left _ (List.mem_append_left _ (List.mem_append_left _ (List.mem_append_right _ (List.mem_append_right _ (List.mem_append_right _ (List.mem_append_right _ (List.mem_append_right _ (List.mem_append_right _ (List.mem_append_right _ (List.mem_append_right _ (List.mem_append_right _ (List.mem_append_right _ (List.mem_append_left _ (h)))))))))))))))))))), List.forall_mem_cons.mpr ⟨fun w h => List.mem_append_left _ (List.mem_append_left _ (List.mem_append_left _ (List.mem_append_left _ (List.mem_append_left _ (List.mem_append_left _ (List.mem_append_left _ (List.mem_append_left _ (List.mem_append_left _ (List.mem_append_right _ (List.mem_append_right _ (List.mem_append_right _ (List.mem_append_right _ (List.mem_append_right _ (List.mem_append_right _ (List.mem_append_right _ (List.mem_append_right _ (List.mem_append_right _ (List.mem_append_right _ (List.mem_append_right _ (List.mem_append_left _ (h))))))))))))))))))))), List.forall_mem_cons.mpr ⟨fun w h => List.mem_append_left _ (List.mem_append_left _ (List.mem_append_left _ (List.mem_append_left _ (List.mem_append_left _ (List.mem_append_left _ (List.mem_append_left _ (List.mem_append_left _ (List.mem_append_left _ (List.mem_append_right _ (List.mem_append_right _ (List.mem_append_right _ (List.mem_append_right _ (List.mem_append_right _ (List.mem_append_right _ (List.mem_append_right _ (List.mem_append_right _ (List.mem_append_right _ (List.mem_append_right _ (List.mem_append_right _ (List.mem_append_right _ (List.mem_append_left _ (h)))))))))))))))))))))), List.forall_mem_cons.mpr ⟨fun w h => List.mem_append_left _ (List.mem_append_left _ (List.mem_append_left _ (List.mem_append_left _ (List.mem_append_left _ (List.mem_append_left _ (List.mem_append_left _ (List.mem_append_left _ (List.mem_append_left _ (List.mem_append_right _ (List.mem_append_right _ (List.mem_append_right _ (List.mem_append_right _ (List.mem_append_right _ (List.mem_append_right _ (List.mem_append_right _ (List.mem_append_right _ (List.mem_append_right _ (List.mem_append_right _ (List.mem_append_right _ (List.mem_append_right _ (List.mem_append_right _ (List.mem_append_left _ (h))))))))))))))))))))))), List.forall_mem_cons.mpr ⟨fun w h => List.mem_append_left _ (List.mem_append_left _ (List.mem_append_left _ (List.mem_append_left _ (List.mem_append_left _ (List.mem_append_left _ (List.mem_append_left _ (List.mem_append_left _ (List.mem_append_left _ (List.mem_append_right _ (List.mem_append_right _ (List.mem_append_right _ (List.mem_append_right _ (List.mem_append_right _ (List.mem_append_right _ (List.mem_append_right _ (List.mem_append_right _ (List.mem_append_right _ (List.mem_append_right _ (List.mem_append_right _ (List.mem_append_right _ (List.mem_append_right _ (List.mem_append_right _ (List.mem_append_left _ (h)))))))))))))))))))))))), List.forall_mem_cons.mpr ⟨fun w h => List.mem_append_left _ (List.mem_append_left _ (List.mem_append_left _ (List.mem_append_left _ (List.mem_append_left _ (List.mem_append_left _ (List.mem_append_left _ (List.mem_append_left _ (List.mem_append_left _ (List.mem_append_right _ (List.mem_append_right _ (List.mem_append_right _ (List.mem_append_right _ (List.mem_append_right _ (List.mem_append_right _ (List.mem_append_right _ (List.mem_append_right _ (List.mem_append_right _ (List.mem_append_right _ (List.mem_append_right _ (List.mem_append_right _ (List.mem_append_right _ (List.mem_append_right _ (List.mem_append_right _ (List.mem_append_left _ (h))))))))))))))))))))))))), List.forall_mem_cons.mpr ⟨fun w h => List.mem_append_left _ (List.mem_append_left _ (List.mem_append_left _ (List.mem_append_left _ (List.mem_append_left _ (List.mem_append_left _ (List.mem_append_left _ (List.mem_append_left _ (List.mem_append_left _ (List.mem_append_right _ (List.mem_append_right _ (List.mem_append_right _ (List.mem_append_right _ (List.mem_append_right _ (List.mem_append_right _ (List.mem_append_right _ (List.mem_append_right _ (List.mem_append_right _ (List.mem_append_right _ (List.mem_append_right _ (List.mem_append_right _ (List.mem_append_right _ (List.mem_append_right _ (List.mem_append_right _ (List.mem_append_right _ (List.mem_append_left _ (h)))))))))))))))))))))))))), List.forall_mem_cons.mpr ⟨fun w h => List.mem_append_left _ (List.mem_append_left _ (List.mem_append_left _ (List.mem_append_left _ (List.mem_append_left _ (List.mem_append_left _ (List.mem_append_left _ (List.mem_append_left _ (List.mem_append_left _ (List.mem_append_right _ (List.mem_append_right _ (List.mem_append_right _ (List.mem_append_right _ (List.mem_append_right _ (List.mem_append_right _ (List.mem_append_right _ (List.mem_append_right _ (List.mem_append_right _ (List.mem_append_right _ (List.mem_append_right _ (List.mem_append_right _ (List.mem_append_right _ (List.mem_append_right _ (List.mem_append_right _ (List.mem_append_right _ (List.mem_append_right _ (List.mem_append_left _ (h))))))))))))))))))))))))))), List.forall_mem_cons.mpr ⟨fun w h => List.mem_append_left _ (List.mem_append_left _ (List.mem_append_left _ (List.mem_append_left _ (List.mem_append_left _ (List.mem_append_left _ (List.mem_append_left _ (List.mem_append_left _ (List.mem_append_left _ (List.mem_append_right _ (List.mem_append_right _ (List.mem_append_right _ (List.mem_append_right _ (List.mem_append_right _ (List.mem_append_right _ (List.mem_append_right _ (List.mem_append_right _ (List.mem_append_right _ (List.mem_append_right _ (List.mem_append_right _ (List.mem_append_right _ (List.mem_append_right _ (List.mem_append_right _ (List.mem_append_right _ (List.mem_append_right _ (List.mem_append_right _ (List.mem_append_right _ (List.mem_append_left _ (h)))))))))))))))))))))))))))), List.forall_mem_cons.mpr ⟨fun w h => List.mem_append_left _ (List.mem_append_left _ (List.mem_append_left _ (List.mem_append_left _ (List.mem_append_left _ (List.mem_append_left _ (List.mem_append_left _ (List.mem_append_left _ (List.mem_append_left _ (List.mem_append_right _ (List.mem_append_right _ (List.mem_append_right _ (List.mem_append_right _ (List.mem_append_right _ (List.mem_append_right _ (List.mem_append_right _ (List.mem_append_right _ (List.mem_append_right _ (List.mem_append_right _ (List.mem_append_right _ (List.mem_append_right _ (List.mem_append_right _ (List.mem_append_right _ (List.mem_append_right _ (List.mem_append_right _ (List.mem_append_right _ (List.mem_append_right _ (List.mem_append_right _ (List.mem_append_left _ (h))))))))))))))))))))))))))))), List.forall_mem_cons.mpr ⟨fun w h => List.mem_append_left _ (List.mem_append_left _ (List.mem_append_left _ (List.mem_append_left _ (List.mem_append_left _ (List.mem_append_left _ (List.mem_append_left _ (List.mem_append_left _ (List.mem_append_left _ (List.mem_append_right _ (List.mem_append_right _ (List.mem_append_right _ (List.mem_append_right _ (List.mem_append_right _ (List.mem_append_right _ (List.mem_append_right _ (List.mem_append_right _ (List.mem_append_right _ (List.mem_append_right _ (List.mem_append_right _ (List.mem_append_right _ (List.mem_append_right _ (List.mem_append_right _ (List.mem_append_right _ (List.mem_append_right _ (List.mem_append_right _ (List.mem_append_right _ (List.mem_append_right _ (List.mem_append_right _ (List.mem_append_left _ (h)))))))))))))))))))))))))))))), List.forall_mem_cons.mpr ⟨fun w h => List.mem_append_left _ (List.mem_append_left _ (List.mem_append_left _ (List.mem_append_left _ (List.mem_append_left _ (List.mem_append_left _ (List.mem_append_left _ (List.mem_append_left _ (List.mem_append_left _ (List.mem_append_right _ (List.mem_append_right _ (List.mem_append_right _ (List.mem_append_right _ (List.mem_append_right _ (List.mem_append_right _ (List.mem_append_right _ (List.mem_append_right _ (List.mem_append_right _ (List.mem_append_right _ (List.mem_append_right _ (List.mem_append_right _ (List.mem_append_right _ (List.mem_append_right _ (List.mem_append_right _ (List.mem_append_right _ (List.mem_append_right _ (List.mem_append_right _ (List.mem_append_right _ (List.mem_append_right _ (List.mem_append_right _ (List.mem_append_left _ (h))))))))))))))))))))))))))))))), List.forall_mem_cons.mpr ⟨fun w h => List.mem_append_left _ (List.mem_append_left _ (List.mem_append_left _ (List.mem_append_left _ (List.mem_append_left _ (List.mem_append_left _ (List.mem_append_left _ (List.mem_append_left _ (List.mem_append_left _ (List.mem_append_right _ (List.mem_append_right _ (List.mem_append_right _ (List.mem_append_right _ (List.mem_append_right _ (List.mem_append_right _ (List.mem_append_right _ (List.mem_append_right _ (List.mem_append_right _ (List.mem_append_right _ (List.mem_append_right _ (List.mem_append_right _ (List.mem_append_right _ (List.mem_append_right _ (List.mem_append_right _ (List.mem_append_right _ (List.mem_append_right _ (List.mem_append_right _ (List.mem_append_right _ (List.mem_append_right _ (List.mem_append_right _ (List.mem_append_right _ (List.mem_append_left _ (h)))))))))))))))))))))))))))))))), List.forall_mem_cons.mpr ⟨fun w h => List.mem_append_left _ (List.mem_append_left _ (List.mem_append_left _ (List.mem_append_left _ (List.mem_append_left _ (List.mem_append_left _ (List.mem_append_left _ (List.mem_append_left _ (List.mem_append_left _ (List.mem_append_right _ (List.mem_append_right _ (List.mem_append_right _ (List.mem_append_right _ (List.mem_append_right _ (List.mem_append_right _ (List.mem_append_right _ (List.mem_append_right _ (List.mem_append_right _ (List.mem_append_right _ (List.mem_append_right _ (List.mem_append_right _ (List.mem_append_right _ (List.mem_append_right _ (List.mem_append_right _ (List.mem_append_right _ (List.mem_append_right _ (List.mem_append_right _ (List.mem_append_right _ (List.mem_append_right _ (List.mem_append_right _ (List.mem_append_right _ (List.mem_append_right _ (List.mem_append_left _ (h))))))))))))))))))))))))))))))))), List.forall_mem_cons.mpr ⟨fun w h => List.mem_append_left _ (List.mem_append_left _ (List.mem_append_left _ (List.mem_append_left _ (List.mem_append_left _ (List.mem_append_left _ (List.mem_append_left _ (List.mem_append_left _ (List.mem_append_left _ (List.mem_append_right _ (List.mem_append_right _ (List.mem_append_right _ (List.mem_append_right _ (List.mem_append_right _ (List.mem_append_right _ (List.mem_append_right _ (List.mem_append_right _ (List.mem_append_right _ (List.mem_append_right _ (List.mem_append_right _ (List.mem_append_right _ (List.mem_append_right _ (List.mem_append_right _ (List.mem_append_right _ (List.mem_append_right _ (List.mem_append_right _ (List.mem_append_right _ (List.mem_append_right _ (List.mem_append_right _ (List.mem_append_right _ (List.mem_append_right _ (List.mem_append_right _ (List.mem_append_right _ (List.mem_append_left _ (h)))))))))))))))))))))))))))))))))), List.forall_mem_cons.mpr ⟨fun w h => List.mem_append_left _ (List.mem_append_left _ (List.mem_append_left _ (List.mem_append_left _ (List.mem_append_left _ (List.mem_append_left _ (List.mem_append_left _ (List.mem_append_left _ (List.mem_append_left _ (List.mem_append_right _ (List.mem_append_right _ (List.mem_append_right _ (List.mem_append_right _ (List.mem_append_right _ (List.mem_append_right _ (List.mem_append_right _ (List.mem_append_right _ (List.mem_append_right _ (List.mem_append_right _ (List.mem_append_right _ (List.mem_append_right _ (List.mem_append_right _ (List.mem_append_right _ (List.mem_append_right _ (List.mem_append_right _ (List.mem_append_right _ (List.mem_append_right _ (List.mem_append_right _ (List.mem_append_right _ (List.mem_append_right _ (List.mem_append_right _ (List.mem_append_right _ (List.mem_append_right _ (List.mem_append_right _ (List.mem_append_left _ (h))))))))))))))))))))))))))))))))))), List.forall_mem_cons.mpr ⟨fun w h => List.mem_append_left _ (List.mem_append_left _ (List.mem_append_left _ (List.mem_append_left _ (List.mem_append_left _ (List.mem_append_left _ (List.mem_append_left _ (List.mem_append_left _ (List.mem_append_left _ (List.mem_append_right _ (List.mem_append_right _ (List.mem_append_right _ (List.mem_append_right _ (List.mem_append_right _ (List.mem_append_right _ (List.mem_append_right _ (List.mem_append_right _ (List.mem_append_right _ (List.mem_append_right _ (List.mem_append_right _ (List.mem_append_right _ (List.mem_append_right _ (List.mem_append_right _ (List.mem_append_right _ (List.mem_append_right _ (List.mem_append_right _ (List.mem_append_right _ (List.mem_append_right _ (List.mem_append_right _ (List.mem_append_right _ (List.mem_append_right _ (List.mem_append_right _ (List.mem_append_right _ (List.mem_append_right _ (List.mem_append_right _ (List.mem_append_left _ (h)))))))))))))))))))))))))))))))))))), List.forall_mem_cons.mpr ⟨fun w h => List.mem_append_left _ (List.mem_append_left _ (List.mem_append_left _ (List.mem_append_left _ (List.mem_append_left _ (List.mem_append_left _ (List.mem_append_left _ (List.mem_append_left _ (List.mem_append_left _ (List.mem_append_right _ (List.mem_append_right _ (List.mem_append_right _ (List.mem_append_right _ (List.mem_append_right _ (List.mem_append_right _ (List.mem_append_right _ (List.mem_append_right _ (List.mem_append_right _ (List.mem_append_right _ (List.mem_append_right _ (List.mem_append_right _ (List.mem_append_right _ (List.mem_append_right _ (List.mem_append_right _ (List.mem_append_right _ (List.mem_append_right _ (List.mem_append_right _ (List.mem_append_right _ (List.mem_append_right _ (List.mem_append_right _ (List.mem_append_right _ (List.mem_append_right _ (List.mem_append_right _ (List.mem_append_right _ (List.mem_append_right _ (List.mem_append_right _ (h)))))))))))))))))))))))))))))))))))), List.forall_mem_cons.mpr ⟨fun w h => List.mem_append_left _ (List.mem_append_left _ (List.mem_append_left _ (List.mem_append_left _ (List.mem_append_left _ (List.mem_append_left _ (List.mem_append_left _ (List.mem_append_left _ (List.mem_append_right _ (h))))))))), List.forall_mem_cons.mpr ⟨fun w h => List.mem_append_left _ (List.mem_append_left _ (List.mem_append_left _ (List.mem_append_left _ (List.mem_append_left _ (List.mem_append_left _ (List.mem_append_left _ (List.mem_append_right _ (h)))))))), List.forall_mem_cons.mpr ⟨fun w h => List.mem_append_left _ (List.mem_append_left _ (List.mem_append_left _ (List.mem_append_left _ (List.mem_append_left _ (List.mem_append_left _ (List.mem_append_right _ (h))))))), List.forall_mem_cons.mpr ⟨fun w h => List.mem_append_left _ (List.mem_append_left _ (List.mem_append_left _ (List.mem_append_left _ (List.mem_append_left _ (List.mem_append_right _ (h)))))), List.forall_mem_cons.mpr ⟨fun w h => List.mem_append_left _ (List.mem_append_left _ (List.mem_append_left _ (List.mem_append_left _ (List.mem_append_right _ (h))))), List.forall_mem_cons.mpr ⟨fun w h => List.mem_append_left _ (List.mem_append_left _ (List.mem_append_left _ (List.mem_append_right _ (h)))), List.forall_mem_cons.mpr ⟨fun w h => List.mem_append_left _ (List.mem_append_left _ (List.mem_append_right _ (h))), List.forall_mem_cons.mpr ⟨fun w h => List.mem_append_left _ (List.mem_append_right _ (h)), fun _ h => absurd h List.not_mem_nil⟩⟩⟩⟩⟩⟩⟩⟩⟩⟩⟩⟩⟩⟩⟩⟩⟩⟩⟩⟩⟩⟩⟩⟩⟩⟩⟩⟩⟩⟩⟩⟩⟩⟩⟩⟩
set_option maxRecDepth 20000 in
theorem ggL_law_X6_init : GoodIn wsL_law wsX6_init := goodIn_c lawC lawC_in _ [(0, 9), (0, 10), (0, 11), (0, 12), (0, 13), (0, 14), (0, 15), (0, 16), (0, 17), (0, 18), (0, 19), (0, 20), (0, 21), (0, 22), (0, 23), (1, 0), (1, 1), (1, 2), (1, 3), (1, 4), (1, 5), (1, 6), (1, 7), (1, 8), (1, 9), (1, 10), (1, 11), (1, 12), (1, 13), (1, 14), (1, 15), (1, 16), (1, 17), (1, 18), (1, 19), (1, 20), (1, 21), (1, 22), (1, 23), (2, 0), (2, 1), (2, 2), (2, 3), (2, 4), (2, 5), (2, 6), (2, 7), (2, 8), (2, 9), (2, 10), (2, 11), (2, 12), (2, 13), (2, 14), (2, 15), (2, 16), (2, 17), (2, 18), (2, 19), (2, 20), (2, 21), (2, 22), (2, 23), (3, 0), (3, 1), (3, 2), (3, 3), (3, 4), (3, 5), (3, 6), (3, 7), (3, 8), (3, 9), (3, 10), (3, 11), (3, 12), (3, 13), (3, 14), (3, 15), (3, 16), (3, 17), (3, 18), (3, 19), (3, 20), (3, 21), (3, 22), (30, 0), (30, 1), (30, 2), (30, 3), (30, 4), (30, 5), (28, 0), (28, 1), (28, 2), (28, 3), (28, 4), (28, 5), (31, 0), (31, 1), (31, 2), (31, 3), (31, 4), (32, 0), (32, 1), (33, 0), (33, 1), (33, 2), (33, 3), (33, 4), (33, 5), (33, 6), (34, 0), (34, 1), (34, 2), (35, 0), (35, 1)] rfl (by decide +kernel)
set_option maxRecDepth 20000 in
theorem gL_law_X6_init : GoodIn wsL_law (wsX6_init) := ggL_law_X6_init
set_option maxRecDepth 20000 in
theorem ggL_law_X7_init : GoodIn wsL_law wsX7_init := goodIn_c lawC lawC_in _ [(4, 1), (4, 2), (0, 11), (0, 12), (4, 3), (1, 17), (4, 4), (4, 5), (4, 6), (4, 7), (4, 8), (4, 9), (4, 10), (4, 11), (4, 12), (2, 12), (4, 13), (4, 14), (4, 15), (4, 16), (4, 17), (29, 0), (29, 1), (29, 2), (29, 3), (29, 4), (29, 5), (29, 6), (29, 7), (29, 8), (29, 9), (29, 10), (29, 11), (29, 12), (29, 13), (29, 14), (29, 15), (29, 16)] rfl (by decide +kernel)
set_option maxRecDepth 20000 in
theorem gL_law_X7_init : GoodIn wsL_law (wsX7_init) := ggL_law_X7_init
set_option maxRecDepth 20000 in
theorem ggL_law_X6_parts : GoodIn wsL_law wsX6_parts := goodIn_c lawC lawC_in _ [(4, 21), (0, 16), (0, 20), (1, 0), (1, 4), (4, 22), (1, 22), (1, 23), (0, 15), (2, 0), (2, 1), (2, 2), (2, 3), (2, 4), (2, 5), (2, 6), (2, 7), (1, 18), (1, 19), (1, 20), (4, 23), (2, 16), (2, 17), (0, 19), (2, 18), (2, 19), (2, 20), (2, 21), (5, 0), (5, 1), (5, 2), (0, 23), (5, 3), (5, 4), (5, 5), (5, 6), (5, 7), (1, 3), (5, 8), (5, 9), (28, 0), (28, 1), (28, 2), (28, 3), (28, 4), (28, 5), (30, 0), (30, 1), (30, 2), (30, 3), (30, 4), (30, 5), (31, 0), (31, 1), (31, 2), (31, 3), (31, 4), (32, 0), (32, 1), (33, 0), (33, 1), (33, 2), (33, 3), (33, 4), (33, 5), (33, 6)] rfl (by decide +kernel)
set_option maxRecDepth 20000 in
theorem gL_law_X6_parts : GoodIn wsL_law (wsV RL 13 RX6 yX6_parts wsX6_parts) := goodIn_app (goodIn_c lawC lawC_in _ [(4, 18), (4, 19), (4, 20), (0, 2)] rfl (by decide +kernel)) ggL_law_X6_parts
set_option maxRecDepth 20000 in
theorem ggL_law_X7_parts : GoodIn wsL_law wsX7_parts := goodIn_c lawC lawC_in _ [(5, 13), (5, 14), (4, 3), (4, 4), (4, 5), (4, 6), (4, 10), (5, 15), (4, 9), (5, 16), (5, 17), (5, 18), (5, 19), (0, 5), (5, 20), (29, 0), (29, 1), (29, 2), (29, 3), (29, 4), (29, 5), (29, 6), (29, 7), (29, 8), (29, 9), (29, 10), (29, 11), (29, 12), (29, 13), (29, 14), (29, 15), (29, 16)] rfl (by decide +kernel)
set_option maxRecDepth 20000 in
theorem gL_law_X7_parts : GoodIn wsL_law (wsV RL 17 RX7 yX7_parts wsX7_parts) := goodIn_app (goodIn_c lawC lawC_in _ [(5, 10), (5, 11), (5, 12), (0, 5)] rfl (by decide +kernel)) ggL_law_X7_parts
set_option maxRecDepth 20000 in
theorem ggL_law_X6_part : GoodIn wsL_law wsX6_part := goodIn_c lawC lawC_in _ [(6, 0), (0, 16), (1, 4), (6, 1), (6, 2), (6, 3), (0, 15), (6, 4), (2, 1), (6, 5), (2, 5), (2, 6), (2, 7), (1, 18), (1, 19), (1, 20), (5, 5), (5, 6), (5, 7), (1, 3), (5, 8), (5, 9), (28, 0), (28, 1), (28, 2), (28, 3), (28, 4), (28, 5), (30, 0), (30, 1), (30, 2), (30, 3), (30, 4), (30, 5), (33, 0), (33, 1), (33, 2), (33, 3), (33, 4), (33, 5), (33, 6)] rfl (by decide +kernel)
set_option maxRecDepth 20000 in
theorem gL_law_X6_part : GoodIn wsL_law (wsV RL 18 RX6 yX6_part wsX6_part) := goodIn_app (goodIn_c lawC lawC_in _ [(5, 21), (5, 22), (5, 23), (0, 2)] rfl (by decide +kernel)) ggL_law_X6_part
set_option maxRecDepth 20000 in
theorem ggL_law_X7_part : GoodIn wsL_law wsX7_part := goodIn_c lawC lawC_in _ [(6, 9), (5, 14), (6, 10), (4, 4), (4, 5), (4, 6), (6, 11), (6, 12), (6, 13), (0, 5), (6, 14), (4, 3), (5, 18), (5, 19), (5, 20), (29, 0), (29, 1), (29, 2), (29, 3), (29, 4), (29, 5), (29, 6), (29, 7), (29, 8), (29, 9), (29, 10), (29, 11), (29, 12), (29, 13), (29, 14), (29, 15), (29, 16)] rfl (by decide +kernel)
set_option maxRecDepth 20000 in
theorem gL_law_X7_part : GoodIn wsL_law (wsV RL 22 RX7 yX7_part wsX7_part) := goodIn_app (goodIn_c lawC lawC_in _ [(6, 6), (6, 7), (6, 8), (0, 5)] rfl (by decide +kernel)) ggL_law_X7_part
set_option maxRecDepth 20000 in
theorem ggL_law_X6_single : GoodIn wsL_law wsX6_single := goodIn_c lawC lawC_in _ [(6, 18), (0, 16), (0, 20), (6, 1), (6, 2), (6, 3), (0, 15), (6, 4), (2, 1), (6, 19), (6, 20), (6, 21), (0, 19), (6, 22), (2, 20), (6, 23), (7, 0), (7, 1), (7, 2), (2, 19), (7, 3), (7, 4), (7, 5), (7, 6), (2, 13), (7, 7), (7, 8), (7, 9), (7, 10), (28, 0), (28, 1), (28, 2), (28, 3), (28, 4), (28, 5), (30, 0), (30, 1), (30, 2), (30, 3), (30, 4), (30, 5), (31, 0), (31, 1), (31, 2), (31, 3), (31, 4)] rfl (by decide +kernel)
set_option maxRecDepth 20000 in
theorem gL_law_X6_single : GoodIn wsL_law (wsV RL 23 RX6 yX6_single wsX6_single) := goodIn_app (goodIn_c lawC lawC_in _ [(6, 15), (6, 16), (6, 17), (0, 2)] rfl (by decide +kernel)) ggL_law_X6_single
set_option maxRecDepth 20000 in
theorem ggL_law_X7_single : GoodIn wsL_law wsX7_single := goodIn_c lawC lawC_in _ [(7, 14), (5, 15), (4, 8), (6, 11), (6, 12), (6, 13), (0, 5), (6, 14), (4, 3), (5, 18), (5, 19), (5, 20), (7, 15), (7, 16), (7, 17), (7, 18), (7, 19), (7, 20), (7, 21), (7, 22), (29, 0), (29, 1), (29, 2), (29, 3), (29, 4), (29, 5), (29, 6), (29, 7), (29, 8), (29, 9), (29, 10), (29, 11), (29, 12), (29, 13), (29, 14), (29, 15), (29, 16)] rfl (by decide +kernel)
set_option maxRecDepth 20000 in
theorem gL_law_X7_single : GoodIn wsL_law (wsV RL 27 RX7 yX7_single wsX7_single) := goodIn_app (goodIn_c lawC lawC_in _ [(7, 11), (7, 12), (7, 13), (0, 5)] rfl (by decide +kernel)) ggL_law_X7_single
set_option maxRecDepth 20000 in
theorem ggL_law_X6_row : GoodIn wsL_law wsX6_row := goodIn_c lawC lawC_in _ [(8, 2), (0, 20), (8, 3), (8, 4), (8, 5), (0, 19), (8, 6), (2, 20), (6, 19), (6, 20), (6, 21), (6, 22), (8, 7), (8, 8), (8, 9), (8, 10), (2, 13), (28, 0), (28, 1), (28, 2), (28, 3), (28, 4), (28, 5), (31, 0), (31, 1), (31, 2), (31, 3), (31, 4)] rfl (by decide +kernel)
set_option maxRecDepth 20000 in
theorem gL_law_X6_row : GoodIn wsL_law (wsV RL 28 RX6 yX6_row wsX6_row) := goodIn_app (goodIn_c lawC lawC_in _ [(7, 23), (8, 0), (8, 1), (0, 2)] rfl (by decide +kernel)) ggL_law_X6_row
set_option maxRecDepth 20000 in
theorem ggL_law_X7_row : GoodIn wsL_law wsX7_row := goodIn_c lawC lawC_in _ [(8, 14), (5, 15), (4, 8), (8, 15), (8, 16), (8, 17), (0, 5), (8, 18), (5, 18), (5, 19), (5, 20), (7, 15), (7, 16), (7, 17), (7, 18), (4, 3), (7, 19), (7, 20), (7, 21), (7, 22), (29, 0), (29, 1), (29, 2), (29, 3), (29, 4), (29, 5), (29, 6), (29, 7), (29, 8), (29, 9), (29, 10), (29, 11), (29, 12), (29, 13), (29, 14), (29, 15), (29, 16)] rfl (by decide +kernel)
set_option maxRecDepth 20000 in
theorem gL_law_X7_row : GoodIn wsL_law (wsV RL 32 RX7 yX7_row wsX7_row) := goodIn_app (goodIn_c lawC lawC_in _ [(8, 11), (8, 12), (8, 13), (0, 5)] rfl (by decide +kernel)) ggL_law_X7_row
set_option maxRecDepth 20000 in
theorem ggL_law_X6_side : GoodIn wsL_law wsX6_side := goodIn_c lawC lawC_in _ [(8, 22), (0, 20), (8, 3), (8, 4), (8, 5), (0, 19), (8, 6), (2, 20), (6, 19), (6, 20), (6, 21), (6, 22), (8, 23), (9, 0), (9, 1), (9, 2), (2, 13), (28, 0), (28, 1), (28, 2), (28, 3), (28, 4), (28, 5), (31, 0), (31, 1), (31, 2), (31, 3), (31, 4)] rfl (by decide +kernel)
set_option maxRecDepth 20000 in
theorem gL_law_X6_side : GoodIn wsL_law (wsV RL 33 RX6 yX6_side wsX6_side) := goodIn_app (goodIn_c lawC lawC_in _ [(8, 19), (8, 20), (8, 21), (0, 2)] rfl (by decide +kernel)) ggL_law_X6_side
set_option maxRecDepth 20000 in
theorem ggL_law_X7_side : GoodIn wsL_law wsX7_side := goodIn_c lawC lawC_in _ [(9, 6), (5, 15), (4, 8), (8, 15), (8, 16), (8, 17), (0, 5), (8, 18), (5, 18), (5, 19), (5, 20), (7, 15), (7, 16), (7, 17), (7, 18), (4, 3), (7, 19), (7, 20), (7, 21), (7, 22), (29, 0), (29, 1), (29, 2), (29, 3), (29, 4), (29, 5), (29, 6), (29, 7), (29, 8), (29, 9), (29, 10), (29, 11), (29, 12), (29, 13), (29, 14), (29, 15), (29, 16)] rfl (by decide +kernel)
set_option maxRecDepth 20000 in
theorem gL_law_X7_side : GoodIn wsL_law (wsV RL 36 RX7 yX7_side wsX7_side) := goodIn_app (goodIn_c lawC lawC_in _ [(9, 3), (9, 4), (9, 5), (0, 5)] rfl (by decide +kernel)) ggL_law_X7_side
set_option maxRecDepth 20000 in
theorem ggL_law_X6_some : GoodIn wsL_law wsX6_some := goodIn_c lawC lawC_in _ [(9, 10), (0, 16), (0, 20), (9, 11), (9, 12), (9, 13), (0, 15), (9, 14), (2, 1), (6, 19), (6, 20), (6, 21), (0, 19), (6, 22), (2, 20), (9, 15), (9, 16), (9, 17), (9, 18), (2, 19), (9, 19), (9, 20), (9, 21), (9, 22), (2, 14), (7, 3), (7, 4), (7, 5), (7, 6), (2, 13), (9, 23), (10, 0), (10, 1), (10, 2), (7, 7), (7, 8), (7, 9), (7, 10), (28, 0), (28, 1), (28, 2), (28, 3), (28, 4), (28, 5), (30, 0), (30, 1), (30, 2), (30, 3), (30, 4), (30, 5), (31, 0), (31, 1), (31, 2), (31, 3), (31, 4)] rfl (by decide +kernel)
set_option maxRecDepth 20000 in
theorem gL_law_X6_some : GoodIn wsL_law (wsV RL 39 RX6 yX6_some wsX6_some) := goodIn_app (goodIn_c lawC lawC_in _ [(9, 7), (9, 8), (9, 9), (0, 2)] rfl (by decide +kernel)) ggL_law_X6_some
set_option maxRecDepth 20000 in
theorem ggL_law_X7_some : GoodIn wsL_law wsX7_some := goodIn_c lawC lawC_in _ [(10, 6), (10, 7), (10, 8), (5, 15), (4, 3), (4, 8), (7, 15), (7, 16), (7, 17), (0, 5), (7, 18), (5, 18), (5, 19), (5, 20), (7, 19), (7, 20), (7, 21), (7, 22), (29, 0), (29, 1), (29, 2), (29, 3), (29, 4), (29, 5), (29, 6), (29, 7), (29, 8), (29, 9), (29, 10), (29, 11), (29, 12), (29, 13), (29, 14), (29, 15), (29, 16)] rfl (by decide +kernel)
set_option maxRecDepth 20000 in
theorem gL_law_X7_some : GoodIn wsL_law (wsV RL 43 RX7 yX7_some wsX7_some) := goodIn_app (goodIn_c lawC lawC_in _ [(10, 3), (10, 4), (10, 5), (0, 5)] rfl (by decide +kernel)) ggL_law_X7_some
set_option maxRecDepth 20000 in
theorem ggL_law_X6_dual : GoodIn wsL_law wsX6_dual := goodIn_c lawC lawC_in _ [(10, 12), (0, 20), (8, 3), (8, 4), (8, 5), (0, 19), (8, 6), (2, 20), (6, 19), (6, 20), (6, 21), (6, 22), (10, 13), (10, 14), (10, 15), (10, 16), (2, 19), (7, 3), (7, 4), (7, 5), (7, 6), (2, 13), (10, 17), (10, 18), (10, 19), (10, 20), (7, 7), (7, 8), (7, 9), (7, 10), (28, 0), (28, 1), (28, 2), (28, 3), (28, 4), (28, 5), (31, 0), (31, 1), (31, 2), (31, 3), (31, 4)] rfl (by decide +kernel)
set_option maxRecDepth 20000 in
theorem gL_law_X6_dual : GoodIn wsL_law (wsV RL 44 RX6 yX6_dual wsX6_dual) := goodIn_app (goodIn_c lawC lawC_in _ [(10, 9), (10, 10), (10, 11), (0, 2)] rfl (by decide +kernel)) ggL_law_X6_dual
set_option maxRecDepth 20000 in
theorem ggL_law_X7_dual : GoodIn wsL_law wsX7_dual := goodIn_c lawC lawC_in _ [(11, 0), (5, 15), (4, 8), (8, 15), (8, 16), (8, 17), (0, 5), (8, 18), (5, 18), (5, 19), (5, 20), (7, 15), (7, 16), (7, 17), (7, 18), (4, 3), (7, 19), (7, 20), (7, 21), (7, 22), (29, 0), (29, 1), (29, 2), (29, 3), (29, 4), (29, 5), (29, 6), (29, 7), (29, 8), (29, 9), (29, 10), (29, 11), (29, 12), (29, 13), (29, 14), (29, 15), (29, 16)] rfl (by decide +kernel)
set_option maxRecDepth 20000 in
theorem gL_law_X7_dual : GoodIn wsL_law (wsV RL 47 RX7 yX7_dual wsX7_dual) := goodIn_app (goodIn_c lawC lawC_in _ [(10, 21), (10, 22), (10, 23), (0, 5)] rfl (by decide +kernel)) ggL_law_X7_dual
set_option maxRecDepth 20000 in
theorem ggL_law_X6_system : GoodIn wsL_law wsX6_system := goodIn_c lawC lawC_in _ [(11, 4), (0, 20), (1, 4), (8, 3), (8, 4), (8, 5), (0, 19), (8, 6), (2, 20), (5, 5), (5, 6), (5, 7), (1, 3), (5, 8), (5, 9), (28, 0), (28, 1), (28, 2), (28, 3), (28, 4), (28, 5), (31, 0), (31, 1), (31, 2), (31, 3), (31, 4), (33, 0), (33, 1), (33, 2), (33, 3), (33, 4), (33, 5), (33, 6)] rfl (by decide +kernel)
set_option maxRecDepth 20000 in
theorem gL_law_X6_system : GoodIn wsL_law (wsV RL 48 RX6 yX6_system wsX6_system) := goodIn_app (goodIn_c lawC lawC_in _ [(11, 1), (11, 2), (11, 3), (0, 2)] rfl (by decide +kernel)) ggL_law_X6_system
set_option maxRecDepth 20000 in
theorem ggL_law_X7_system : GoodIn wsL_law wsX7_system := goodIn_c lawC lawC_in _ [(11, 8), (4, 9), (8, 15), (8, 16), (8, 17), (0, 5), (8, 18), (5, 15), (5, 18), (5, 19), (5, 20), (29, 0), (29, 1), (29, 2), (29, 3), (29, 4), (29, 5), (29, 6), (29, 7), (29, 8), (29, 9), (29, 10), (29, 11), (29, 12), (29, 13), (29, 14), (29, 15), (29, 16)] rfl (by decide +kernel)
set_option maxRecDepth 20000 in
theorem gL_law_X7_system : GoodIn wsL_law (wsV RL 51 RX7 yX7_system wsX7_system) := goodIn_app (goodIn_c lawC lawC_in _ [(11, 5), (11, 6), (11, 7), (0, 5)] rfl (by decide +kernel)) ggL_law_X7_system
set_option maxRecDepth 20000 in
theorem ggL_law_X6_says : GoodIn wsL_law wsX6_says := goodIn_c lawC lawC_in _ [(11, 12), (0, 20), (0, 16), (8, 3), (8, 4), (8, 5), (0, 19), (8, 6), (2, 20), (9, 11), (9, 12), (9, 13), (0, 15), (9, 14), (2, 1), (11, 13), (10, 18), (10, 19), (10, 20), (2, 13), (28, 0), (28, 1), (28, 2), (28, 3), (28, 4), (28, 5), (31, 0), (31, 1), (31, 2), (31, 3), (31, 4), (30, 0), (30, 1), (30, 2), (30, 3), (30, 4), (30, 5)] rfl (by decide +kernel)
set_option maxRecDepth 20000 in
theorem gL_law_X6_says : GoodIn wsL_law (wsV RL 52 RX6 yX6_says wsX6_says) := goodIn_app (goodIn_c lawC lawC_in _ [(11, 9), (11, 10), (11, 11), (0, 2)] rfl (by decide +kernel)) ggL_law_X6_says
set_option maxRecDepth 20000 in
theorem ggL_law_X7_says : GoodIn wsL_law wsX7_says := goodIn_c lawC lawC_in _ [(11, 17), (4, 8), (8, 15), (8, 16), (8, 17), (0, 5), (8, 18), (5, 15), (5, 18), (5, 19), (5, 20), (7, 15), (7, 16), (7, 17), (7, 18), (4, 3), (29, 0), (29, 1), (29, 2), (29, 3), (29, 4), (29, 5), (29, 6), (29, 7), (29, 8), (29, 9), (29, 10), (29, 11), (29, 12), (29, 13), (29, 14), (29, 15), (29, 16)] rfl (by decide +kernel)
set_option maxRecDepth 20000 in
theorem gL_law_X7_says : GoodIn wsL_law (wsV RL 55 RX7 yX7_says wsX7_says) := goodIn_app (goodIn_c lawC lawC_in _ [(11, 14), (11, 15), (11, 16), (0, 5)] rfl (by decide +kernel)) ggL_law_X7_says
set_option maxRecDepth 20000 in
theorem ggL_law_X6_differ : GoodIn wsL_law wsX6_differ := goodIn_c lawC lawC_in _ [(11, 21), (0, 20), (8, 3), (8, 4), (8, 5), (0, 19), (8, 6), (2, 20), (11, 22), (11, 23), (12, 0), (12, 1), (2, 19), (10, 17), (10, 18), (10, 19), (10, 20), (2, 13), (28, 0), (28, 1), (28, 2), (28, 3), (28, 4), (28, 5), (31, 0), (31, 1), (31, 2), (31, 3), (31, 4)] rfl (by decide +kernel)
set_option maxRecDepth 20000 in
theorem gL_law_X6_differ : GoodIn wsL_law (wsV RL 56 RX6 yX6_differ wsX6_differ) := goodIn_app (goodIn_c lawC lawC_in _ [(11, 18), (11, 19), (11, 20), (0, 2)] rfl (by decide +kernel)) ggL_law_X6_differ
set_option maxRecDepth 20000 in
theorem ggL_law_X7_differ : GoodIn wsL_law wsX7_differ := goodIn_c lawC lawC_in _ [(12, 5), (4, 8), (8, 15), (8, 16), (8, 17), (0, 5), (8, 18), (5, 15), (5, 18), (5, 19), (5, 20), (7, 15), (7, 16), (7, 17), (7, 18), (4, 3), (29, 0), (29, 1), (29, 2), (29, 3), (29, 4), (29, 5), (29, 6), (29, 7), (29, 8), (29, 9), (29, 10), (29, 11), (29, 12), (29, 13), (29, 14), (29, 15), (29, 16)] rfl (by decide +kernel)
set_option maxRecDepth 20000 in
theorem gL_law_X7_differ : GoodIn wsL_law (wsV RL 59 RX7 yX7_differ wsX7_differ) := goodIn_app (goodIn_c lawC lawC_in _ [(12, 2), (12, 3), (12, 4), (0, 5)] rfl (by decide +kernel)) ggL_law_X7_differ
set_option maxRecDepth 20000 in
theorem ggL_law_X6_sets : GoodIn wsL_law wsX6_sets := goodIn_c lawC lawC_in _ [(12, 9), (0, 20), (12, 10), (12, 11), (12, 12), (0, 19), (12, 13), (2, 21), (12, 14), (8, 4), (8, 5), (8, 6), (2, 20), (12, 15), (12, 16), (12, 17), (12, 18), (2, 19), (12, 19), (12, 20), (12, 21), (12, 22), (12, 23), (13, 0), (13, 1), (13, 2), (13, 3), (13, 4), (13, 5), (13, 6), (10, 17), (10, 18), (10, 19), (10, 20), (2, 13), (28, 0), (28, 1), (28, 2), (28, 3), (28, 4), (28, 5), (31, 0), (31, 1), (31, 2), (31, 3), (31, 4)] rfl (by decide +kernel)
set_option maxRecDepth 20000 in
theorem gL_law_X6_sets : GoodIn wsL_law (wsV RL 60 RX6 yX6_sets wsX6_sets) := goodIn_app (goodIn_c lawC lawC_in _ [(12, 6), (12, 7), (12, 8), (0, 2)] rfl (by decide +kernel)) ggL_law_X6_sets
set_option maxRecDepth 20000 in
theorem ggL_law_X7_sets : GoodIn wsL_law wsX7_sets := goodIn_c lawC lawC_in _ [(13, 10), (4, 9), (5, 18), (5, 19), (0, 5), (5, 20), (7, 15), (7, 16), (7, 17), (7, 18), (4, 3), (13, 11), (13, 12), (13, 13), (13, 14), (13, 15), (13, 16), (13, 17), (13, 18), (13, 19), (13, 20), (13, 21), (13, 22), (4, 8), (29, 0), (29, 1), (29, 2), (29, 3), (29, 4), (29, 5), (29, 6), (29, 7), (29, 8), (29, 9), (29, 10), (29, 11), (29, 12), (29, 13), (29, 14), (29, 15), (29, 16)] rfl (by decide +kernel)
set_option maxRecDepth 20000 in
theorem gL_law_X7_sets : GoodIn wsL_law (wsV RL 63 RX7 yX7_sets wsX7_sets) := goodIn_app (goodIn_c lawC lawC_in _ [(13, 7), (13, 8), (13, 9), (0, 5)] rfl (by decide +kernel)) ggL_law_X7_sets
set_option maxRecDepth 20000 in
theorem ggL_law_X6_set : GoodIn wsL_law wsX6_set := goodIn_c lawC lawC_in _ [(14, 2), (0, 20), (12, 10), (12, 11), (12, 12), (0, 19), (12, 13), (2, 21), (12, 14), (8, 4), (8, 5), (8, 6), (2, 20), (14, 3), (14, 4), (14, 5), (14, 6), (2, 19), (12, 19), (12, 20), (12, 21), (12, 22), (12, 23), (13, 0), (13, 1), (13, 2), (13, 3), (13, 4), (13, 5), (13, 6), (10, 17), (10, 18), (10, 19), (10, 20), (2, 13), (28, 0), (28, 1), (28, 2), (28, 3), (28, 4), (28, 5), (31, 0), (31, 1), (31, 2), (31, 3), (31, 4)] rfl (by decide +kernel)
set_option maxRecDepth 20000 in
theorem gL_law_X6_set : GoodIn wsL_law (wsV RL 64 RX6 yX6_set wsX6_set) := goodIn_app (goodIn_c lawC lawC_in _ [(13, 23), (14, 0), (14, 1), (0, 2)] rfl (by decide +kernel)) ggL_law_X6_set
set_option maxRecDepth 20000 in
theorem ggL_law_X7_set : GoodIn wsL_law wsX7_set := goodIn_c lawC lawC_in _ [(14, 10), (4, 9), (5, 18), (5, 19), (0, 5), (5, 20), (7, 15), (7, 16), (7, 17), (7, 18), (4, 3), (13, 11), (13, 12), (13, 13), (13, 14), (13, 15), (13, 16), (13, 17), (13, 18), (13, 19), (13, 20), (13, 21), (13, 22), (4, 8), (29, 0), (29, 1), (29, 2), (29, 3), (29, 4), (29, 5), (29, 6), (29, 7), (29, 8), (29, 9), (29, 10), (29, 11), (29, 12), (29, 13), (29, 14), (29, 15), (29, 16)] rfl (by decide +kernel)
set_option maxRecDepth 20000 in
theorem gL_law_X7_set : GoodIn wsL_law (wsV RL 67 RX7 yX7_set wsX7_set) := goodIn_app (goodIn_c lawC lawC_in _ [(14, 7), (14, 8), (14, 9), (0, 5)] rfl (by decide +kernel)) ggL_law_X7_set
set_option maxRecDepth 20000 in
theorem ggL_law_X6_see : GoodIn wsL_law wsX6_see := goodIn_c lawC lawC_in _ [(14, 14), (0, 16), (6, 1), (6, 2), (6, 3), (0, 15), (6, 4), (2, 1), (14, 15), (14, 16), (14, 17), (14, 18), (2, 2), (2, 3), (28, 0), (28, 1), (28, 2), (28, 3), (28, 4), (28, 5), (30, 0), (30, 1), (30, 2), (30, 3), (30, 4), (30, 5)] rfl (by decide +kernel)
set_option maxRecDepth 20000 in
theorem gL_law_X6_see : GoodIn wsL_law (wsV RL 68 RX6 yX6_see wsX6_see) := goodIn_app (goodIn_c lawC lawC_in _ [(14, 11), (14, 12), (14, 13), (0, 2)] rfl (by decide +kernel)) ggL_law_X6_see
set_option maxRecDepth 20000 in
theorem ggL_law_X7_see : GoodIn wsL_law wsX7_see := goodIn_c lawC lawC_in _ [(14, 22), (14, 23), (4, 10), (6, 11), (6, 12), (6, 13), (0, 5), (6, 14), (4, 3), (5, 18), (5, 19), (5, 20), (29, 0), (29, 1), (29, 2), (29, 3), (29, 4), (29, 5), (29, 6), (29, 7), (29, 8), (29, 9), (29, 10), (29, 11), (29, 12), (29, 13), (29, 14), (29, 15), (29, 16)] rfl (by decide +kernel)
set_option maxRecDepth 20000 in
theorem gL_law_X7_see : GoodIn wsL_law (wsV RL 72 RX7 yX7_see wsX7_see) := goodIn_app (goodIn_c lawC lawC_in _ [(14, 19), (14, 20), (14, 21), (0, 5)] rfl (by decide +kernel)) ggL_law_X7_see
set_option maxRecDepth 20000 in
theorem ggL_law_X6_partOf : GoodIn wsL_law wsX6_partOf := goodIn_c lawC lawC_in _ [(15, 3), (0, 16), (6, 1), (6, 2), (6, 3), (0, 15), (6, 4), (2, 1), (15, 4), (15, 5), (15, 6), (15, 7), (2, 2), (2, 3), (28, 0), (28, 1), (28, 2), (28, 3), (28, 4), (28, 5), (30, 0), (30, 1), (30, 2), (30, 3), (30, 4), (30, 5)] rfl (by decide +kernel)
set_option maxRecDepth 20000 in
theorem gL_law_X6_partOf : GoodIn wsL_law (wsV RL 73 RX6 yX6_partOf wsX6_partOf) := goodIn_app (goodIn_c lawC lawC_in _ [(15, 0), (15, 1), (15, 2), (0, 2)] rfl (by decide +kernel)) ggL_law_X6_partOf
set_option maxRecDepth 20000 in
theorem ggL_law_X7_partOf : GoodIn wsL_law wsX7_partOf := goodIn_c lawC lawC_in _ [(15, 11), (4, 4), (4, 5), (4, 6), (4, 10), (6, 11), (6, 12), (6, 13), (0, 5), (6, 14), (4, 3), (5, 18), (5, 19), (5, 20), (29, 0), (29, 1), (29, 2), (29, 3), (29, 4), (29, 5), (29, 6), (29, 7), (29, 8), (29, 9), (29, 10), (29, 11), (29, 12), (29, 13), (29, 14), (29, 15), (29, 16)] rfl (by decide +kernel)
set_option maxRecDepth 20000 in
theorem gL_law_X7_partOf : GoodIn wsL_law (wsV RL 76 RX7 yX7_partOf wsX7_partOf) := goodIn_app (goodIn_c lawC lawC_in _ [(15, 8), (15, 9), (15, 10), (0, 5)] rfl (by decide +kernel)) ggL_law_X7_partOf
set_option maxRecDepth 20000 in
theorem ggL_law_X6_sure : GoodIn wsL_law wsX6_sure := goodIn_c lawC lawC_in _ [(15, 15), (0, 20), (0, 16), (12, 10), (12, 11), (12, 12), (0, 19), (12, 13), (2, 21), (12, 14), (8, 4), (8, 5), (8, 6), (2, 20), (15, 16), (15, 17), (15, 18), (0, 15), (15, 19), (2, 1), (2, 2), (15, 20), (15, 21), (15, 22), (15, 23), (13, 3), (13, 4), (13, 5), (13, 6), (10, 17), (10, 18), (10, 19), (10, 20), (2, 13), (28, 0), (28, 1), (28, 2), (28, 3), (28, 4), (28, 5), (30, 0), (30, 1), (30, 2), (30, 3), (30, 4), (30, 5), (31, 0), (31, 1), (31, 2), (31, 3), (31, 4)] rfl (by decide +kernel)
set_option maxRecDepth 20000 in
theorem gL_law_X6_sure : GoodIn wsL_law (wsV RL 77 RX6 yX6_sure wsX6_sure) := goodIn_app (goodIn_c lawC lawC_in _ [(15, 12), (15, 13), (15, 14), (0, 2)] rfl (by decide +kernel)) ggL_law_X6_sure
set_option maxRecDepth 20000 in
theorem ggL_law_X7_sure : GoodIn wsL_law wsX7_sure := goodIn_c lawC lawC_in _ [(16, 3), (4, 9), (16, 4), (16, 5), (16, 6), (0, 5), (16, 7), (4, 3), (4, 17), (4, 10), (16, 8), (16, 9), (16, 10), (16, 11), (16, 12), (16, 13), (16, 14), (16, 15), (16, 16), (16, 17), (16, 18), (16, 19), (13, 19), (13, 20), (13, 21), (13, 22), (4, 8), (7, 15), (7, 16), (7, 17), (7, 18), (29, 0), (29, 1), (29, 2), (29, 3), (29, 4), (29, 5), (29, 6), (29, 7), (29, 8), (29, 9), (29, 10), (29, 11), (29, 12), (29, 13), (29, 14), (29, 15), (29, 16)] rfl (by decide +kernel)
set_option maxRecDepth 20000 in
theorem gL_law_X7_sure : GoodIn wsL_law (wsV RL 81 RX7 yX7_sure wsX7_sure) := goodIn_app (goodIn_c lawC lawC_in _ [(16, 0), (16, 1), (16, 2), (0, 5)] rfl (by decide +kernel)) ggL_law_X7_sure
set_option maxRecDepth 20000 in
theorem ggL_law_X6_told : GoodIn wsL_law wsX6_told := goodIn_c lawC lawC_in _ [(16, 23), (0, 16), (0, 20), (17, 0), (1, 8), (1, 4), (17, 1), (17, 2), (17, 3), (0, 15), (17, 4), (2, 1), (1, 18), (1, 19), (12, 10), (12, 11), (12, 12), (0, 19), (12, 13), (2, 21), (12, 14), (8, 4), (8, 5), (8, 6), (2, 20), (17, 5), (17, 6), (17, 7), (1, 7), (17, 8), (3, 17), (3, 18), (17, 9), (17, 10), (17, 11), (17, 12), (2, 2), (2, 3), (17, 13), (13, 4), (13, 5), (13, 6), (10, 17), (10, 18), (10, 19), (10, 20), (2, 13), (17, 14), (17, 15), (17, 16), (17, 17), (17, 18), (17, 19), (17, 20), (17, 21), (1, 3), (17, 22), (3, 7), (17, 23), (18, 0), (18, 1), (18, 2), (5, 9), (18, 3), (3, 9), (2, 12), (1, 17), (3, 8), (3, 10), (18, 4), (15, 21), (15, 22), (15, 23), (13, 3), (18, 5), (18, 6), (18, 7), (18, 8), (18, 9), (18, 10), (18, 11), (18, 12), (3, 6), (18, 13), (18, 14), (18, 15), (18, 16), (18, 17), (18, 18), (18, 19), (18, 20), (18, 21), (18, 22), (18, 23), (19, 0), (19, 1), (19, 2), (19, 3), (3, 11), (19, 4), (19, 5), (19, 6), (0, 23), (19, 7), (5, 4), (3, 1), (19, 8), (19, 9), (19, 10), (19, 11), (19, 12), (19, 13), (19, 14), (19, 15), (19, 16), (19, 17), (19, 18), (19, 19), (19, 20), (19, 21), (19, 22), (19, 23), (20, 0), (20, 1), (20, 2), (20, 3), (20, 4), (20, 5), (20, 6), (20, 7), (20, 8), (20, 9), (20, 10), (20, 11), (20, 12), (20, 13), (20, 14), (20, 15), (20, 16), (3, 16), (20, 17), (13, 0), (13, 1), (13, 2), (2, 19), (20, 18), (20, 19), (20, 20), (20, 21), (20, 22), (20, 23), (21, 0), (21, 1), (15, 17), (15, 18), (15, 19), (21, 2), (21, 3), (21, 4), (21, 5), (1, 20), (21, 6), (21, 7), (21, 8), (21, 9), (21, 10), (21, 11), (21, 12), (21, 13), (21, 14), (21, 15), (21, 16), (21, 17), (21, 18), (21, 19), (21, 20), (21, 21), (21, 22), (28, 0), (28, 1), (28, 2), (28, 3), (28, 4), (28, 5), (30, 0), (30, 1), (30, 2), (30, 3), (30, 4), (30, 5), (31, 0), (31, 1), (31, 2), (31, 3), (31, 4), (34, 0), (34, 1), (34, 2), (33, 0), (33, 1), (33, 2), (33, 3), (33, 4), (33, 5), (33, 6), (32, 0), (32, 1)] rfl (by decide +kernel)
set_option maxRecDepth 20000 in
theorem gL_law_X6_told : GoodIn wsL_law (wsV RL 82 RX6 yX6_told wsX6_told) := goodIn_app (goodIn_c lawC lawC_in _ [(16, 20), (16, 21), (16, 22), (0, 2)] rfl (by decide +kernel)) ggL_law_X6_told
set_option maxRecDepth 20000 in
theorem ggL_law_X7_told : GoodIn wsL_law wsX7_told := goodIn_c lawC lawC_in _ [(22, 2), (4, 9), (22, 3), (22, 4), (22, 5), (22, 6), (4, 13), (4, 14), (4, 15), (4, 16), (16, 4), (16, 5), (16, 6), (0, 5), (16, 7), (4, 3), (4, 17), (4, 10), (22, 7), (22, 8), (22, 9), (22, 10), (4, 4), (4, 5), (16, 16), (16, 17), (16, 18), (16, 19), (5, 18), (5, 19), (5, 20), (22, 11), (22, 12), (22, 13), (22, 14), (22, 15), (22, 16), (22, 17), (22, 18), (22, 19), (22, 20), (22, 21), (22, 22), (4, 6), (16, 8), (16, 9), (16, 10), (16, 11), (16, 12), (16, 13), (16, 14), (16, 15), (13, 19), (13, 20), (13, 21), (13, 22), (4, 8), (7, 15), (7, 16), (7, 17), (7, 18), (22, 23), (23, 0), (23, 1), (23, 2), (23, 3), (23, 4), (23, 5), (23, 6), (23, 7), (23, 8), (23, 9), (23, 10), (23, 11), (23, 12), (23, 13), (23, 14), (23, 15), (23, 16), (23, 17), (23, 18), (5, 16), (4, 11), (29, 0), (29, 1), (29, 2), (29, 3), (29, 4), (29, 5), (29, 6), (29, 7), (29, 8), (29, 9), (29, 10), (29, 11), (29, 12), (29, 13), (29, 14), (29, 15), (29, 16)] rfl (by decide +kernel)
set_option maxRecDepth 20000 in
theorem gL_law_X7_told : GoodIn wsL_law (wsV RL 86 RX7 yX7_told wsX7_told) := goodIn_app (goodIn_c lawC lawC_in _ [(21, 23), (22, 0), (22, 1), (0, 5)] rfl (by decide +kernel)) ggL_law_X7_told
set_option maxRecDepth 20000 in
theorem ggL_law_X6_of : GoodIn wsL_law wsX6_of := goodIn_c lawC lawC_in _ [(23, 22), (0, 16), (0, 20), (17, 0), (1, 4), (1, 8), (6, 1), (6, 2), (6, 3), (0, 15), (6, 4), (2, 1), (15, 4), (15, 5), (15, 6), (15, 7), (2, 2), (2, 3), (12, 10), (12, 11), (12, 12), (0, 19), (12, 13), (2, 21), (12, 14), (8, 4), (8, 5), (8, 6), (2, 20), (23, 23), (24, 0), (24, 1), (1, 3), (24, 2), (3, 9), (3, 7), (18, 3), (17, 23), (18, 0), (18, 1), (18, 2), (5, 9), (2, 12), (1, 17), (3, 8), (3, 10), (18, 4), (15, 21), (15, 22), (15, 23), (13, 3), (13, 4), (13, 5), (13, 6), (10, 17), (10, 18), (10, 19), (10, 20), (2, 13), (18, 5), (18, 6), (18, 7), (18, 8), (18, 9), (18, 10), (18, 11), (18, 12), (3, 6), (18, 13), (18, 14), (18, 15), (18, 16), (18, 17), (18, 18), (18, 19), (18, 20), (18, 21), (18, 22), (18, 23), (24, 3), (24, 4), (24, 5), (1, 7), (24, 6), (3, 17), (3, 18), (17, 9), (17, 10), (17, 11), (17, 12), (17, 13), (17, 14), (17, 15), (17, 16), (17, 17), (17, 18), (17, 2), (17, 3), (17, 4), (1, 18), (1, 19), (28, 0), (28, 1), (28, 2), (28, 3), (28, 4), (28, 5), (30, 0), (30, 1), (30, 2), (30, 3), (30, 4), (30, 5), (31, 0), (31, 1), (31, 2), (31, 3), (31, 4), (33, 0), (33, 1), (33, 2), (33, 3), (33, 4), (33, 5), (33, 6), (34, 0), (34, 1), (34, 2)] rfl (by decide +kernel)
set_option maxRecDepth 20000 in
theorem gL_law_X6_of : GoodIn wsL_law (wsV RL 87 RX6 yX6_of wsX6_of) := goodIn_app (goodIn_c lawC lawC_in _ [(23, 19), (23, 20), (23, 21), (0, 2)] rfl (by decide +kernel)) ggL_law_X6_of
set_option maxRecDepth 20000 in
theorem ggL_law_X7_of : GoodIn wsL_law wsX7_of := goodIn_c lawC lawC_in _ [(24, 10), (4, 10), (4, 9), (22, 4), (4, 13), (4, 17), (6, 11), (6, 12), (6, 13), (0, 5), (6, 14), (4, 3), (5, 18), (5, 19), (5, 20), (16, 4), (16, 5), (16, 6), (16, 7), (22, 11), (22, 12), (22, 13), (22, 14), (22, 15), (22, 16), (22, 17), (22, 18), (16, 16), (16, 17), (16, 18), (16, 19), (22, 19), (22, 20), (22, 21), (22, 22), (4, 15), (4, 14), (4, 16), (4, 6), (16, 8), (16, 9), (16, 10), (16, 11), (16, 12), (16, 13), (16, 14), (16, 15), (13, 19), (13, 20), (13, 21), (13, 22), (4, 8), (7, 15), (7, 16), (7, 17), (7, 18), (22, 7), (22, 8), (22, 9), (22, 10), (4, 4), (4, 5), (22, 23), (23, 0), (23, 1), (23, 2), (23, 3), (23, 4), (23, 5), (23, 6), (29, 0), (29, 1), (29, 2), (29, 3), (29, 4), (29, 5), (29, 6), (29, 7), (29, 8), (29, 9), (29, 10), (29, 11), (29, 12), (29, 13), (29, 14), (29, 15), (29, 16)] rfl (by decide +kernel)
set_option maxRecDepth 20000 in
theorem gL_law_X7_of : GoodIn wsL_law (wsV RL 91 RX7 yX7_of wsX7_of) := goodIn_app (goodIn_c lawC lawC_in _ [(24, 7), (24, 8), (24, 9), (0, 5)] rfl (by decide +kernel)) ggL_law_X7_of
set_option maxRecDepth 20000 in
theorem ggL_law_X6_order : GoodIn wsL_law wsX6_order := goodIn_c lawC lawC_in _ [(24, 14), (0, 16), (1, 0), (6, 1), (6, 2), (6, 3), (0, 15), (6, 4), (2, 1), (24, 15), (24, 16), (24, 17), (0, 23), (24, 18), (5, 4), (3, 1), (24, 19), (24, 20), (24, 21), (24, 22), (28, 0), (28, 1), (28, 2), (28, 3), (28, 4), (28, 5), (32, 0), (32, 1), (30, 0), (30, 1), (30, 2), (30, 3), (30, 4), (30, 5)] rfl (by decide +kernel)
set_option maxRecDepth 20000 in
theorem gL_law_X6_order : GoodIn wsL_law (wsV RL 92 RX6 yX6_order wsX6_order) := goodIn_app (goodIn_c lawC lawC_in _ [(24, 11), (24, 12), (24, 13), (0, 2)] rfl (by decide +kernel)) ggL_law_X6_order
set_option maxRecDepth 20000 in
theorem ggL_law_X7_order : GoodIn wsL_law wsX7_order := goodIn_c lawC lawC_in _ [(25, 2), (4, 11), (5, 16), (6, 11), (6, 12), (6, 13), (0, 5), (6, 14), (4, 3), (5, 18), (5, 19), (5, 20), (25, 3), (25, 4), (25, 5), (25, 6), (29, 0), (29, 1), (29, 2), (29, 3), (29, 4), (29, 5), (29, 6), (29, 7), (29, 8), (29, 9), (29, 10), (29, 11), (29, 12), (29, 13), (29, 14), (29, 15), (29, 16)] rfl (by decide +kernel)
set_option maxRecDepth 20000 in
theorem gL_law_X7_order : GoodIn wsL_law (wsV RL 95 RX7 yX7_order wsX7_order) := goodIn_app (goodIn_c lawC lawC_in _ [(24, 23), (25, 0), (25, 1), (0, 5)] rfl (by decide +kernel)) ggL_law_X7_order
set_option maxRecDepth 20000 in
theorem ggL_law_X6_ratios : GoodIn wsL_law wsX6_ratios := goodIn_c lawC lawC_in _ [(25, 10), (1, 0), (0, 16), (5, 0), (5, 1), (5, 2), (0, 23), (5, 3), (5, 4), (25, 11), (25, 12), (25, 13), (25, 14), (3, 1), (25, 15), (25, 16), (25, 17), (28, 0), (28, 1), (28, 2), (28, 3), (28, 4), (28, 5), (32, 0), (32, 1), (30, 0), (30, 1), (30, 2), (30, 3), (30, 4), (30, 5)] rfl (by decide +kernel)
set_option maxRecDepth 20000 in
theorem gL_law_X6_ratios : GoodIn wsL_law (wsV RL 96 RX6 yX6_ratios wsX6_ratios) := goodIn_app (goodIn_c lawC lawC_in _ [(25, 7), (25, 8), (25, 9), (0, 2)] rfl (by decide +kernel)) ggL_law_X6_ratios
set_option maxRecDepth 20000 in
theorem ggL_law_X7_ratios : GoodIn wsL_law wsX7_ratios := goodIn_c lawC lawC_in _ [(25, 21), (5, 16), (4, 3), (4, 11), (25, 3), (25, 4), (25, 5), (0, 5), (25, 6), (25, 22), (25, 23), (26, 0), (26, 1), (4, 6), (4, 4), (4, 5), (26, 2), (26, 3), (26, 4), (26, 5), (29, 0), (29, 1), (29, 2), (29, 3), (29, 4), (29, 5), (29, 6), (29, 7), (29, 8), (29, 9), (29, 10), (29, 11), (29, 12), (29, 13), (29, 14), (29, 15), (29, 16)] rfl (by decide +kernel)
set_option maxRecDepth 20000 in
theorem gL_law_X7_ratios : GoodIn wsL_law (wsV RL 100 RX7 yX7_ratios wsX7_ratios) := goodIn_app (goodIn_c lawC lawC_in _ [(25, 18), (25, 19), (25, 20), (0, 5)] rfl (by decide +kernel)) ggL_law_X7_ratios
set_option maxRecDepth 20000 in
theorem ggL_law_X6_ordered : GoodIn wsL_law wsX6_ordered := goodIn_c lawC lawC_in _ [(26, 9), (1, 0), (28, 0), (28, 1), (28, 2), (28, 3), (28, 4), (28, 5), (32, 0), (32, 1)] rfl (by decide +kernel)
set_option maxRecDepth 20000 in
theorem gL_law_X6_ordered : GoodIn wsL_law (wsV RL 101 RX6 yX6_ordered wsX6_ordered) := goodIn_app (goodIn_c lawC lawC_in _ [(26, 6), (26, 7), (26, 8), (0, 2)] rfl (by decide +kernel)) ggL_law_X6_ordered
set_option maxRecDepth 20000 in
theorem ggL_law_X7_ordered : GoodIn wsL_law wsX7_ordered := goodIn_c lawC lawC_in _ [(26, 13), (5, 16), (4, 11), (5, 18), (5, 19), (0, 5), (5, 20), (29, 0), (29, 1), (29, 2), (29, 3), (29, 4), (29, 5), (29, 6), (29, 7), (29, 8), (29, 9), (29, 10), (29, 11), (29, 12), (29, 13), (29, 14), (29, 15), (29, 16)] rfl (by decide +kernel)
set_option maxRecDepth 20000 in
theorem gL_law_X7_ordered : GoodIn wsL_law (wsV RL 104 RX7 yX7_ordered wsX7_ordered) := goodIn_app (goodIn_c lawC lawC_in _ [(26, 10), (26, 11), (26, 12), (0, 5)] rfl (by decide +kernel)) ggL_law_X7_ordered
set_option maxRecDepth 20000 in
theorem ggL_law_X6_run : GoodIn wsL_law wsX6_run := goodIn_c lawC lawC_in _ [(26, 17), (0, 20), (0, 16), (12, 10), (12, 11), (12, 12), (0, 19), (12, 13), (2, 21), (12, 14), (8, 4), (8, 5), (8, 6), (2, 20), (9, 11), (9, 12), (9, 13), (0, 15), (9, 14), (2, 1), (26, 18), (17, 10), (17, 11), (17, 12), (2, 2), (2, 3), (26, 19), (26, 20), (26, 21), (0, 2), (26, 22), (1, 12), (1, 4), (19, 0), (19, 1), (19, 2), (1, 3), (19, 3), (3, 9), (3, 10), (3, 11), (18, 4), (15, 21), (15, 22), (15, 23), (13, 3), (13, 4), (13, 5), (13, 6), (10, 17), (10, 18), (10, 19), (10, 20), (2, 13), (19, 4), (19, 5), (19, 6), (0, 23), (19, 7), (5, 4), (3, 1), (17, 23), (18, 0), (18, 1), (18, 2), (5, 9), (18, 3), (3, 7), (2, 12), (1, 17), (3, 8), (18, 5), (18, 6), (18, 7), (18, 8), (18, 9), (18, 10), (18, 11), (18, 12), (3, 6), (18, 13), (18, 14), (18, 15), (18, 16), (18, 17), (18, 18), (18, 19), (18, 20), (18, 21), (18, 22), (18, 23), (19, 8), (17, 2), (17, 3), (17, 4), (1, 18), (1, 19), (19, 9), (19, 10), (19, 11), (19, 12), (19, 13), (19, 14), (19, 15), (19, 16), (19, 17), (19, 18), (19, 19), (19, 20), (19, 21), (19, 22), (19, 23), (20, 0), (20, 1), (20, 2), (20, 3), (20, 4), (26, 23), (27, 0), (27, 1), (1, 11), (27, 2), (27, 3), (3, 22), (28, 0), (28, 1), (28, 2), (28, 3), (28, 4), (28, 5), (31, 0), (31, 1), (31, 2), (31, 3), (31, 4), (30, 0), (30, 1), (30, 2), (30, 3), (30, 4), (30, 5), (35, 0), (35, 1), (33, 0), (33, 1), (33, 2), (33, 3), (33, 4), (33, 5), (33, 6), (32, 0), (32, 1)] rfl (by decide +kernel)
set_option maxRecDepth 20000 in
theorem gL_law_X6_run : GoodIn wsL_law (wsV RL 105 RX6 yX6_run wsX6_run) := goodIn_app (goodIn_c lawC lawC_in _ [(26, 14), (26, 15), (26, 16), (0, 2)] rfl (by decide +kernel)) ggL_law_X6_run
set_option maxRecDepth 20000 in
theorem ggL_law_X7_run : GoodIn wsL_law wsX7_run := goodIn_c lawC lawC_in _ [(27, 7), (22, 5), (4, 9), (5, 17), (4, 14), (4, 16), (4, 12), (4, 6), (4, 17), (16, 4), (16, 5), (16, 6), (0, 5), (16, 7), (4, 3), (4, 10), (5, 18), (5, 19), (5, 20), (7, 15), (7, 16), (7, 17), (7, 18), (22, 23), (23, 0), (23, 1), (23, 2), (16, 16), (16, 17), (16, 18), (16, 19), (22, 11), (22, 12), (22, 13), (22, 14), (22, 15), (22, 16), (22, 17), (22, 18), (22, 19), (22, 20), (22, 21), (22, 22), (4, 13), (4, 15), (16, 8), (16, 9), (16, 10), (16, 11), (16, 12), (16, 13), (16, 14), (16, 15), (13, 19), (13, 20), (13, 21), (13, 22), (4, 8), (22, 7), (22, 8), (22, 9), (22, 10), (4, 4), (4, 5), (23, 15), (23, 16), (23, 17), (23, 18), (5, 16), (4, 11), (29, 0), (29, 1), (29, 2), (29, 3), (29, 4), (29, 5), (29, 6), (29, 7), (29, 8), (29, 9), (29, 10), (29, 11), (29, 12), (29, 13), (29, 14), (29, 15), (29, 16)] rfl (by decide +kernel)
set_option maxRecDepth 20000 in
theorem gL_law_X7_run : GoodIn wsL_law (wsV RL 108 RX7 yX7_run wsX7_run) := goodIn_app (goodIn_c lawC lawC_in _ [(27, 4), (27, 5), (27, 6), (0, 5)] rfl (by decide +kernel)) ggL_law_X7_run
set_option maxRecDepth 20000 in
theorem ggL_law_X6_looked : GoodIn wsL_law wsX6_looked := goodIn_c lawC lawC_in _ [(27, 11), (1, 12), (28, 0), (28, 1), (28, 2), (28, 3), (28, 4), (28, 5), (35, 0), (35, 1)] rfl (by decide +kernel)
set_option maxRecDepth 20000 in
theorem gL_law_X6_looked : GoodIn wsL_law (wsV RL 109 RX6 yX6_looked wsX6_looked) := goodIn_app (goodIn_c lawC lawC_in _ [(27, 8), (27, 9), (27, 10), (0, 2)] rfl (by decide +kernel)) ggL_law_X6_looked
set_option maxRecDepth 20000 in
theorem ggL_law_X7_looked : GoodIn wsL_law wsX7_looked := goodIn_c lawC lawC_in _ [(27, 15), (5, 17), (4, 12), (5, 18), (5, 19), (0, 5), (5, 20), (29, 0), (29, 1), (29, 2), (29, 3), (29, 4), (29, 5), (29, 6), (29, 7), (29, 8), (29, 9), (29, 10), (29, 11), (29, 12), (29, 13), (29, 14), (29, 15), (29, 16)] rfl (by decide +kernel)
set_option maxRecDepth 20000 in
theorem gL_law_X7_looked : GoodIn wsL_law (wsV RL 112 RX7 yX7_looked wsX7_looked) := goodIn_app (goodIn_c lawC lawC_in _ [(27, 12), (27, 13), (27, 14), (0, 5)] rfl (by decide +kernel)) ggL_law_X7_looked
set_option maxRecDepth 20000 in
theorem ggL_law_X6_about : GoodIn wsL_law wsX6_about := goodIn_c lawC lawC_in _ [(27, 19), (0, 16), (0, 20), (1, 0), (1, 12), (28, 0), (28, 1), (28, 2), (28, 3), (28, 4), (28, 5), (30, 0), (30, 1), (30, 2), (30, 3), (30, 4), (30, 5), (31, 0), (31, 1), (31, 2), (31, 3), (31, 4), (32, 0), (32, 1), (35, 0), (35, 1)] rfl (by decide +kernel)
set_option maxRecDepth 20000 in
theorem gL_law_X6_about : GoodIn wsL_law (wsV RL 113 RX6 yX6_about wsX6_about) := goodIn_app (goodIn_c lawC lawC_in _ [(27, 16), (27, 17), (27, 18), (0, 2)] rfl (by decide +kernel)) ggL_law_X6_about
set_option maxRecDepth 20000 in
theorem ggL_law_X7_about : GoodIn wsL_law wsX7_about := goodIn_c lawC lawC_in _ [(27, 23), (4, 3), (5, 15), (4, 9), (5, 16), (5, 17), (29, 0), (29, 1), (29, 2), (29, 3), (29, 4), (29, 5), (29, 6), (29, 7), (29, 8), (29, 9), (29, 10), (29, 11), (29, 12), (29, 13), (29, 14), (29, 15), (29, 16)] rfl (by decide +kernel)
set_option maxRecDepth 20000 in
theorem gL_law_X7_about : GoodIn wsL_law (wsV RL 116 RX7 yX7_about wsX7_about) := goodIn_app (goodIn_c lawC lawC_in _ [(27, 20), (27, 21), (27, 22), (0, 5)] rfl (by decide +kernel)) ggL_law_X7_about
theorem dL_law_0 : decode cL_law 0 = .ok (.new 7, 3) := by decide +kernel
theorem dL_law_3 : decode cL_law 3 = .ok (.dup, 1) := by decide +kernel
theorem dL_law_4 : decode cL_law 4 = .ok (.invokespecial 9, 3) := by decide +kernel
theorem dL_law_7 : decode cL_law 7 = .ok (.astore_n 1, 1) := by decide +kernel
theorem dL_law_8 : decode cL_law 8 = .ok (.new 10, 3) := by decide +kernel
theorem dL_law_11 : decode cL_law 11 = .ok (.dup, 1) := by decide +kernel
theorem dL_law_12 : decode cL_law 12 = .ok (.invokespecial 12, 3) := by decide +kernel
theorem dL_law_15 : decode cL_law 15 = .ok (.astore_n 2, 1) := by decide +kernel
theorem dL_law_16 : decode cL_law 16 = .ok (.iconst 0, 1) := by decide +kernel
theorem dL_law_17 : decode cL_law 17 = .ok (.istore_n 3, 1) := by decide +kernel
theorem dL_law_18 : decode cL_law 18 = .ok (.iload_n 3, 1) := by decide +kernel
theorem dL_law_19 : decode cL_law 19 = .ok (.aload_n 0, 1) := by decide +kernel
theorem dL_law_20 : decode cL_law 20 = .ok (.arraylength, 1) := by decide +kernel
theorem dL_law_21 : decode cL_law 21 = .ok (.bipush 6, 2) := by decide +kernel
theorem dL_law_23 : decode cL_law 23 = .ok (.isub, 1) := by decide +kernel
theorem dL_law_24 : decode cL_law 24 = .ok (.if_icmp .gt 863, 3) := by decide +kernel
theorem dL_law_27 : decode cL_law 27 = .ok (.aload_n 0, 1) := by decide +kernel
theorem dL_law_28 : decode cL_law 28 = .ok (.iload_n 3, 1) := by decide +kernel
theorem dL_law_29 : decode cL_law 29 = .ok (.iaload, 1) := by decide +kernel
theorem dL_law_30 : decode cL_law 30 = .ok (.bipush 31, 2) := by decide +kernel
theorem dL_law_32 : decode cL_law 32 = .ok (.iand, 1) := by decide +kernel
theorem dL_law_33 : decode cL_law 33 = .ok (.tableswitch 848 0 22 #[107, 130, 183, 206, 239, 272, 355, 378, 401, 434, 467, 490, 523, 556, 589, 602, 625, 658, 681, 746, 769, 802, 825], 107) := by decide +kernel
theorem dL_law_140 : decode cL_law 140 = .ok (.aload_n 1, 1) := by decide +kernel
theorem dL_law_141 : decode cL_law 141 = .ok (.aload_n 0, 1) := by decide +kernel
theorem dL_law_142 : decode cL_law 142 = .ok (.iload_n 3, 1) := by decide +kernel
theorem dL_law_143 : decode cL_law 143 = .ok (.iconst 1, 1) := by decide +kernel
theorem dL_law_144 : decode cL_law 144 = .ok (.iadd, 1) := by decide +kernel
theorem dL_law_145 : decode cL_law 145 = .ok (.iaload, 1) := by decide +kernel
theorem dL_law_146 : decode cL_law 146 = .ok (.invokevirtual 13, 3) := by decide +kernel
theorem dL_law_149 : decode cL_law 149 = .ok (.pop, 1) := by decide +kernel
theorem dL_law_150 : decode cL_law 150 = .ok (.aload_n 2, 1) := by decide +kernel
theorem dL_law_151 : decode cL_law 151 = .ok (.aload_n 0, 1) := by decide +kernel
theorem dL_law_152 : decode cL_law 152 = .ok (.iload_n 3, 1) := by decide +kernel
theorem dL_law_153 : decode cL_law 153 = .ok (.iconst 1, 1) := by decide +kernel
theorem dL_law_154 : decode cL_law 154 = .ok (.iadd, 1) := by decide +kernel
theorem dL_law_155 : decode cL_law 155 = .ok (.iaload, 1) := by decide +kernel
theorem dL_law_156 : decode cL_law 156 = .ok (.invokevirtual 17, 3) := by decide +kernel
theorem dL_law_159 : decode cL_law 159 = .ok (.pop, 1) := by decide +kernel
theorem dL_law_160 : decode cL_law 160 = .ok (.goto 721, 3) := by decide +kernel
theorem dL_law_163 : decode cL_law 163 = .ok (.aload_n 1, 1) := by decide +kernel
theorem dL_law_164 : decode cL_law 164 = .ok (.aload_n 0, 1) := by decide +kernel
theorem dL_law_165 : decode cL_law 165 = .ok (.iload_n 3, 1) := by decide +kernel
theorem dL_law_166 : decode cL_law 166 = .ok (.iconst 1, 1) := by decide +kernel
theorem dL_law_167 : decode cL_law 167 = .ok (.iadd, 1) := by decide +kernel
theorem dL_law_168 : decode cL_law 168 = .ok (.iaload, 1) := by decide +kernel
theorem dL_law_169 : decode cL_law 169 = .ok (.aload_n 0, 1) := by decide +kernel
theorem dL_law_170 : decode cL_law 170 = .ok (.iload_n 3, 1) := by decide +kernel
theorem dL_law_171 : decode cL_law 171 = .ok (.iconst 2, 1) := by decide +kernel
theorem dL_law_172 : decode cL_law 172 = .ok (.iadd, 1) := by decide +kernel
theorem dL_law_173 : decode cL_law 173 = .ok (.iaload, 1) := by decide +kernel
theorem dL_law_174 : decode cL_law 174 = .ok (.aload_n 0, 1) := by decide +kernel
theorem dL_law_175 : decode cL_law 175 = .ok (.iload_n 3, 1) := by decide +kernel
theorem dL_law_176 : decode cL_law 176 = .ok (.iconst 3, 1) := by decide +kernel
theorem dL_law_177 : decode cL_law 177 = .ok (.iadd, 1) := by decide +kernel
theorem dL_law_178 : decode cL_law 178 = .ok (.iaload, 1) := by decide +kernel
theorem dL_law_179 : decode cL_law 179 = .ok (.aload_n 0, 1) := by decide +kernel
theorem dL_law_180 : decode cL_law 180 = .ok (.iload_n 3, 1) := by decide +kernel
theorem dL_law_181 : decode cL_law 181 = .ok (.iconst 4, 1) := by decide +kernel
theorem dL_law_182 : decode cL_law 182 = .ok (.iadd, 1) := by decide +kernel
theorem dL_law_183 : decode cL_law 183 = .ok (.iaload, 1) := by decide +kernel
theorem dL_law_184 : decode cL_law 184 = .ok (.invokevirtual 18, 3) := by decide +kernel
theorem dL_law_187 : decode cL_law 187 = .ok (.pop, 1) := by decide +kernel
theorem dL_law_188 : decode cL_law 188 = .ok (.aload_n 2, 1) := by decide +kernel
theorem dL_law_189 : decode cL_law 189 = .ok (.aload_n 0, 1) := by decide +kernel
theorem dL_law_190 : decode cL_law 190 = .ok (.iload_n 3, 1) := by decide +kernel
theorem dL_law_191 : decode cL_law 191 = .ok (.iconst 1, 1) := by decide +kernel
theorem dL_law_192 : decode cL_law 192 = .ok (.iadd, 1) := by decide +kernel
theorem dL_law_193 : decode cL_law 193 = .ok (.iaload, 1) := by decide +kernel
theorem dL_law_194 : decode cL_law 194 = .ok (.aload_n 0, 1) := by decide +kernel
theorem dL_law_195 : decode cL_law 195 = .ok (.iload_n 3, 1) := by decide +kernel
theorem dL_law_196 : decode cL_law 196 = .ok (.iconst 2, 1) := by decide +kernel
theorem dL_law_197 : decode cL_law 197 = .ok (.iadd, 1) := by decide +kernel
theorem dL_law_198 : decode cL_law 198 = .ok (.iaload, 1) := by decide +kernel
theorem dL_law_199 : decode cL_law 199 = .ok (.aload_n 0, 1) := by decide +kernel
theorem dL_law_200 : decode cL_law 200 = .ok (.iload_n 3, 1) := by decide +kernel
theorem dL_law_201 : decode cL_law 201 = .ok (.iconst 3, 1) := by decide +kernel
theorem dL_law_202 : decode cL_law 202 = .ok (.iadd, 1) := by decide +kernel
theorem dL_law_203 : decode cL_law 203 = .ok (.iaload, 1) := by decide +kernel
theorem dL_law_204 : decode cL_law 204 = .ok (.aload_n 0, 1) := by decide +kernel
theorem dL_law_205 : decode cL_law 205 = .ok (.iload_n 3, 1) := by decide +kernel
theorem dL_law_206 : decode cL_law 206 = .ok (.iconst 4, 1) := by decide +kernel
theorem dL_law_207 : decode cL_law 207 = .ok (.iadd, 1) := by decide +kernel
theorem dL_law_208 : decode cL_law 208 = .ok (.iaload, 1) := by decide +kernel
theorem dL_law_209 : decode cL_law 209 = .ok (.invokevirtual 22, 3) := by decide +kernel
theorem dL_law_212 : decode cL_law 212 = .ok (.pop, 1) := by decide +kernel
theorem dL_law_213 : decode cL_law 213 = .ok (.goto 668, 3) := by decide +kernel
theorem dL_law_216 : decode cL_law 216 = .ok (.aload_n 1, 1) := by decide +kernel
theorem dL_law_217 : decode cL_law 217 = .ok (.aload_n 0, 1) := by decide +kernel
theorem dL_law_218 : decode cL_law 218 = .ok (.iload_n 3, 1) := by decide +kernel
theorem dL_law_219 : decode cL_law 219 = .ok (.iconst 1, 1) := by decide +kernel
theorem dL_law_220 : decode cL_law 220 = .ok (.iadd, 1) := by decide +kernel
theorem dL_law_221 : decode cL_law 221 = .ok (.iaload, 1) := by decide +kernel
theorem dL_law_222 : decode cL_law 222 = .ok (.invokevirtual 23, 3) := by decide +kernel
theorem dL_law_225 : decode cL_law 225 = .ok (.pop, 1) := by decide +kernel
theorem dL_law_226 : decode cL_law 226 = .ok (.aload_n 2, 1) := by decide +kernel
theorem dL_law_227 : decode cL_law 227 = .ok (.aload_n 0, 1) := by decide +kernel
theorem dL_law_228 : decode cL_law 228 = .ok (.iload_n 3, 1) := by decide +kernel
theorem dL_law_229 : decode cL_law 229 = .ok (.iconst 1, 1) := by decide +kernel
theorem dL_law_230 : decode cL_law 230 = .ok (.iadd, 1) := by decide +kernel
theorem dL_law_231 : decode cL_law 231 = .ok (.iaload, 1) := by decide +kernel
theorem dL_law_232 : decode cL_law 232 = .ok (.invokevirtual 27, 3) := by decide +kernel
theorem dL_law_235 : decode cL_law 235 = .ok (.pop, 1) := by decide +kernel
theorem dL_law_236 : decode cL_law 236 = .ok (.goto 645, 3) := by decide +kernel
theorem dL_law_239 : decode cL_law 239 = .ok (.aload_n 1, 1) := by decide +kernel
theorem dL_law_240 : decode cL_law 240 = .ok (.aload_n 0, 1) := by decide +kernel
theorem dL_law_241 : decode cL_law 241 = .ok (.iload_n 3, 1) := by decide +kernel
theorem dL_law_242 : decode cL_law 242 = .ok (.iconst 1, 1) := by decide +kernel
theorem dL_law_243 : decode cL_law 243 = .ok (.iadd, 1) := by decide +kernel
theorem dL_law_244 : decode cL_law 244 = .ok (.iaload, 1) := by decide +kernel
theorem dL_law_245 : decode cL_law 245 = .ok (.aload_n 0, 1) := by decide +kernel
theorem dL_law_246 : decode cL_law 246 = .ok (.iload_n 3, 1) := by decide +kernel
theorem dL_law_247 : decode cL_law 247 = .ok (.iconst 2, 1) := by decide +kernel
theorem dL_law_248 : decode cL_law 248 = .ok (.iadd, 1) := by decide +kernel
theorem dL_law_249 : decode cL_law 249 = .ok (.iaload, 1) := by decide +kernel
theorem dL_law_250 : decode cL_law 250 = .ok (.invokevirtual 28, 3) := by decide +kernel
theorem dL_law_253 : decode cL_law 253 = .ok (.aload_n 2, 1) := by decide +kernel
theorem dL_law_254 : decode cL_law 254 = .ok (.aload_n 0, 1) := by decide +kernel
theorem dL_law_255 : decode cL_law 255 = .ok (.iload_n 3, 1) := by decide +kernel
theorem dL_law_256 : decode cL_law 256 = .ok (.iconst 1, 1) := by decide +kernel
theorem dL_law_257 : decode cL_law 257 = .ok (.iadd, 1) := by decide +kernel
theorem dL_law_258 : decode cL_law 258 = .ok (.iaload, 1) := by decide +kernel
theorem dL_law_259 : decode cL_law 259 = .ok (.aload_n 0, 1) := by decide +kernel
theorem dL_law_260 : decode cL_law 260 = .ok (.iload_n 3, 1) := by decide +kernel
theorem dL_law_261 : decode cL_law 261 = .ok (.iconst 2, 1) := by decide +kernel
theorem dL_law_262 : decode cL_law 262 = .ok (.iadd, 1) := by decide +kernel
theorem dL_law_263 : decode cL_law 263 = .ok (.iaload, 1) := by decide +kernel
theorem dL_law_264 : decode cL_law 264 = .ok (.invokevirtual 32, 3) := by decide +kernel
theorem dL_law_267 : decode cL_law 267 = .ok (.if_icmp .eq 614, 3) := by decide +kernel
theorem dL_law_270 : decode cL_law 270 = .ok (.iconst 0, 1) := by decide +kernel
theorem dL_law_271 : decode cL_law 271 = .ok (.ireturn, 1) := by decide +kernel
theorem dL_law_272 : decode cL_law 272 = .ok (.aload_n 1, 1) := by decide +kernel
theorem dL_law_273 : decode cL_law 273 = .ok (.aload_n 0, 1) := by decide +kernel
theorem dL_law_274 : decode cL_law 274 = .ok (.iload_n 3, 1) := by decide +kernel
theorem dL_law_275 : decode cL_law 275 = .ok (.iconst 1, 1) := by decide +kernel
theorem dL_law_276 : decode cL_law 276 = .ok (.iadd, 1) := by decide +kernel
theorem dL_law_277 : decode cL_law 277 = .ok (.iaload, 1) := by decide +kernel
theorem dL_law_278 : decode cL_law 278 = .ok (.aload_n 0, 1) := by decide +kernel
theorem dL_law_279 : decode cL_law 279 = .ok (.iload_n 3, 1) := by decide +kernel
theorem dL_law_280 : decode cL_law 280 = .ok (.iconst 2, 1) := by decide +kernel
theorem dL_law_281 : decode cL_law 281 = .ok (.iadd, 1) := by decide +kernel
theorem dL_law_282 : decode cL_law 282 = .ok (.iaload, 1) := by decide +kernel
theorem dL_law_283 : decode cL_law 283 = .ok (.invokevirtual 33, 3) := by decide +kernel
theorem dL_law_286 : decode cL_law 286 = .ok (.pop, 1) := by decide +kernel
theorem dL_law_287 : decode cL_law 287 = .ok (.aload_n 2, 1) := by decide +kernel
theorem dL_law_288 : decode cL_law 288 = .ok (.aload_n 0, 1) := by decide +kernel
theorem dL_law_289 : decode cL_law 289 = .ok (.iload_n 3, 1) := by decide +kernel
theorem dL_law_290 : decode cL_law 290 = .ok (.iconst 1, 1) := by decide +kernel
theorem dL_law_291 : decode cL_law 291 = .ok (.iadd, 1) := by decide +kernel
theorem dL_law_292 : decode cL_law 292 = .ok (.iaload, 1) := by decide +kernel
theorem dL_law_293 : decode cL_law 293 = .ok (.aload_n 0, 1) := by decide +kernel
theorem dL_law_294 : decode cL_law 294 = .ok (.iload_n 3, 1) := by decide +kernel
theorem dL_law_295 : decode cL_law 295 = .ok (.iconst 2, 1) := by decide +kernel
theorem dL_law_296 : decode cL_law 296 = .ok (.iadd, 1) := by decide +kernel
theorem dL_law_297 : decode cL_law 297 = .ok (.iaload, 1) := by decide +kernel
theorem dL_law_298 : decode cL_law 298 = .ok (.invokevirtual 36, 3) := by decide +kernel
theorem dL_law_301 : decode cL_law 301 = .ok (.pop, 1) := by decide +kernel
theorem dL_law_302 : decode cL_law 302 = .ok (.goto 579, 3) := by decide +kernel
theorem dL_law_305 : decode cL_law 305 = .ok (.aload_n 1, 1) := by decide +kernel
theorem dL_law_306 : decode cL_law 306 = .ok (.aload_n 0, 1) := by decide +kernel
theorem dL_law_307 : decode cL_law 307 = .ok (.iload_n 3, 1) := by decide +kernel
theorem dL_law_308 : decode cL_law 308 = .ok (.iconst 1, 1) := by decide +kernel
theorem dL_law_309 : decode cL_law 309 = .ok (.iadd, 1) := by decide +kernel
theorem dL_law_310 : decode cL_law 310 = .ok (.iaload, 1) := by decide +kernel
theorem dL_law_311 : decode cL_law 311 = .ok (.aload_n 0, 1) := by decide +kernel
theorem dL_law_312 : decode cL_law 312 = .ok (.iload_n 3, 1) := by decide +kernel
theorem dL_law_313 : decode cL_law 313 = .ok (.iconst 2, 1) := by decide +kernel
theorem dL_law_314 : decode cL_law 314 = .ok (.iadd, 1) := by decide +kernel
theorem dL_law_315 : decode cL_law 315 = .ok (.iaload, 1) := by decide +kernel
theorem dL_law_316 : decode cL_law 316 = .ok (.i2l, 1) := by decide +kernel
theorem dL_law_317 : decode cL_law 317 = .ok (.bipush 32, 2) := by decide +kernel
theorem dL_law_319 : decode cL_law 319 = .ok (.lshl, 1) := by decide +kernel
theorem dL_law_320 : decode cL_law 320 = .ok (.aload_n 0, 1) := by decide +kernel
theorem dL_law_321 : decode cL_law 321 = .ok (.iload_n 3, 1) := by decide +kernel
theorem dL_law_322 : decode cL_law 322 = .ok (.iconst 3, 1) := by decide +kernel
theorem dL_law_323 : decode cL_law 323 = .ok (.iadd, 1) := by decide +kernel
theorem dL_law_324 : decode cL_law 324 = .ok (.iaload, 1) := by decide +kernel
theorem dL_law_325 : decode cL_law 325 = .ok (.i2l, 1) := by decide +kernel
theorem dL_law_326 : decode cL_law 326 = .ok (.ldc2_w 37, 3) := by decide +kernel
theorem dL_law_329 : decode cL_law 329 = .ok (.land, 1) := by decide +kernel
theorem dL_law_330 : decode cL_law 330 = .ok (.lor, 1) := by decide +kernel
theorem dL_law_331 : decode cL_law 331 = .ok (.aload_n 0, 1) := by decide +kernel
theorem dL_law_332 : decode cL_law 332 = .ok (.iload_n 3, 1) := by decide +kernel
theorem dL_law_333 : decode cL_law 333 = .ok (.iconst 4, 1) := by decide +kernel
theorem dL_law_334 : decode cL_law 334 = .ok (.iadd, 1) := by decide +kernel
theorem dL_law_335 : decode cL_law 335 = .ok (.iaload, 1) := by decide +kernel
theorem dL_law_336 : decode cL_law 336 = .ok (.aload_n 0, 1) := by decide +kernel
theorem dL_law_337 : decode cL_law 337 = .ok (.iload_n 3, 1) := by decide +kernel
theorem dL_law_338 : decode cL_law 338 = .ok (.iconst 5, 1) := by decide +kernel
theorem dL_law_339 : decode cL_law 339 = .ok (.iadd, 1) := by decide +kernel
theorem dL_law_340 : decode cL_law 340 = .ok (.iaload, 1) := by decide +kernel
theorem dL_law_341 : decode cL_law 341 = .ok (.invokevirtual 39, 3) := by decide +kernel
theorem dL_law_344 : decode cL_law 344 = .ok (.pop, 1) := by decide +kernel
theorem dL_law_345 : decode cL_law 345 = .ok (.aload_n 2, 1) := by decide +kernel
theorem dL_law_346 : decode cL_law 346 = .ok (.aload_n 0, 1) := by decide +kernel
theorem dL_law_347 : decode cL_law 347 = .ok (.iload_n 3, 1) := by decide +kernel
theorem dL_law_348 : decode cL_law 348 = .ok (.iconst 1, 1) := by decide +kernel
theorem dL_law_349 : decode cL_law 349 = .ok (.iadd, 1) := by decide +kernel
theorem dL_law_350 : decode cL_law 350 = .ok (.iaload, 1) := by decide +kernel
theorem dL_law_351 : decode cL_law 351 = .ok (.aload_n 0, 1) := by decide +kernel
theorem dL_law_352 : decode cL_law 352 = .ok (.iload_n 3, 1) := by decide +kernel
theorem dL_law_353 : decode cL_law 353 = .ok (.iconst 2, 1) := by decide +kernel
theorem dL_law_354 : decode cL_law 354 = .ok (.iadd, 1) := by decide +kernel
theorem dL_law_355 : decode cL_law 355 = .ok (.iaload, 1) := by decide +kernel
theorem dL_law_356 : decode cL_law 356 = .ok (.i2l, 1) := by decide +kernel
theorem dL_law_357 : decode cL_law 357 = .ok (.bipush 32, 2) := by decide +kernel
theorem dL_law_359 : decode cL_law 359 = .ok (.lshl, 1) := by decide +kernel
theorem dL_law_360 : decode cL_law 360 = .ok (.aload_n 0, 1) := by decide +kernel
theorem dL_law_361 : decode cL_law 361 = .ok (.iload_n 3, 1) := by decide +kernel
theorem dL_law_362 : decode cL_law 362 = .ok (.iconst 3, 1) := by decide +kernel
theorem dL_law_363 : decode cL_law 363 = .ok (.iadd, 1) := by decide +kernel
theorem dL_law_364 : decode cL_law 364 = .ok (.iaload, 1) := by decide +kernel
theorem dL_law_365 : decode cL_law 365 = .ok (.i2l, 1) := by decide +kernel
theorem dL_law_366 : decode cL_law 366 = .ok (.ldc2_w 37, 3) := by decide +kernel
theorem dL_law_369 : decode cL_law 369 = .ok (.land, 1) := by decide +kernel
theorem dL_law_370 : decode cL_law 370 = .ok (.lor, 1) := by decide +kernel
theorem dL_law_371 : decode cL_law 371 = .ok (.aload_n 0, 1) := by decide +kernel
theorem dL_law_372 : decode cL_law 372 = .ok (.iload_n 3, 1) := by decide +kernel
theorem dL_law_373 : decode cL_law 373 = .ok (.iconst 4, 1) := by decide +kernel
theorem dL_law_374 : decode cL_law 374 = .ok (.iadd, 1) := by decide +kernel
theorem dL_law_375 : decode cL_law 375 = .ok (.iaload, 1) := by decide +kernel
theorem dL_law_376 : decode cL_law 376 = .ok (.aload_n 0, 1) := by decide +kernel
theorem dL_law_377 : decode cL_law 377 = .ok (.iload_n 3, 1) := by decide +kernel
theorem dL_law_378 : decode cL_law 378 = .ok (.iconst 5, 1) := by decide +kernel
theorem dL_law_379 : decode cL_law 379 = .ok (.iadd, 1) := by decide +kernel
theorem dL_law_380 : decode cL_law 380 = .ok (.iaload, 1) := by decide +kernel
theorem dL_law_381 : decode cL_law 381 = .ok (.invokevirtual 43, 3) := by decide +kernel
theorem dL_law_384 : decode cL_law 384 = .ok (.pop, 1) := by decide +kernel
theorem dL_law_385 : decode cL_law 385 = .ok (.goto 496, 3) := by decide +kernel
theorem dL_law_388 : decode cL_law 388 = .ok (.aload_n 1, 1) := by decide +kernel
theorem dL_law_389 : decode cL_law 389 = .ok (.aload_n 0, 1) := by decide +kernel
theorem dL_law_390 : decode cL_law 390 = .ok (.iload_n 3, 1) := by decide +kernel
theorem dL_law_391 : decode cL_law 391 = .ok (.iconst 1, 1) := by decide +kernel
theorem dL_law_392 : decode cL_law 392 = .ok (.iadd, 1) := by decide +kernel
theorem dL_law_393 : decode cL_law 393 = .ok (.iaload, 1) := by decide +kernel
theorem dL_law_394 : decode cL_law 394 = .ok (.invokevirtual 44, 3) := by decide +kernel
theorem dL_law_397 : decode cL_law 397 = .ok (.pop, 1) := by decide +kernel
theorem dL_law_398 : decode cL_law 398 = .ok (.aload_n 2, 1) := by decide +kernel
theorem dL_law_399 : decode cL_law 399 = .ok (.aload_n 0, 1) := by decide +kernel
theorem dL_law_400 : decode cL_law 400 = .ok (.iload_n 3, 1) := by decide +kernel
theorem dL_law_401 : decode cL_law 401 = .ok (.iconst 1, 1) := by decide +kernel
theorem dL_law_402 : decode cL_law 402 = .ok (.iadd, 1) := by decide +kernel
theorem dL_law_403 : decode cL_law 403 = .ok (.iaload, 1) := by decide +kernel
theorem dL_law_404 : decode cL_law 404 = .ok (.invokevirtual 47, 3) := by decide +kernel
theorem dL_law_407 : decode cL_law 407 = .ok (.pop, 1) := by decide +kernel
theorem dL_law_408 : decode cL_law 408 = .ok (.goto 473, 3) := by decide +kernel
theorem dL_law_411 : decode cL_law 411 = .ok (.aload_n 1, 1) := by decide +kernel
theorem dL_law_412 : decode cL_law 412 = .ok (.aload_n 0, 1) := by decide +kernel
theorem dL_law_413 : decode cL_law 413 = .ok (.iload_n 3, 1) := by decide +kernel
theorem dL_law_414 : decode cL_law 414 = .ok (.iconst 1, 1) := by decide +kernel
theorem dL_law_415 : decode cL_law 415 = .ok (.iadd, 1) := by decide +kernel
theorem dL_law_416 : decode cL_law 416 = .ok (.iaload, 1) := by decide +kernel
theorem dL_law_417 : decode cL_law 417 = .ok (.invokevirtual 48, 3) := by decide +kernel
theorem dL_law_420 : decode cL_law 420 = .ok (.pop, 1) := by decide +kernel
theorem dL_law_421 : decode cL_law 421 = .ok (.aload_n 2, 1) := by decide +kernel
theorem dL_law_422 : decode cL_law 422 = .ok (.aload_n 0, 1) := by decide +kernel
theorem dL_law_423 : decode cL_law 423 = .ok (.iload_n 3, 1) := by decide +kernel
theorem dL_law_424 : decode cL_law 424 = .ok (.iconst 1, 1) := by decide +kernel
theorem dL_law_425 : decode cL_law 425 = .ok (.iadd, 1) := by decide +kernel
theorem dL_law_426 : decode cL_law 426 = .ok (.iaload, 1) := by decide +kernel
theorem dL_law_427 : decode cL_law 427 = .ok (.invokevirtual 51, 3) := by decide +kernel
theorem dL_law_430 : decode cL_law 430 = .ok (.pop, 1) := by decide +kernel
theorem dL_law_431 : decode cL_law 431 = .ok (.goto 450, 3) := by decide +kernel
theorem dL_law_434 : decode cL_law 434 = .ok (.aload_n 1, 1) := by decide +kernel
theorem dL_law_435 : decode cL_law 435 = .ok (.aload_n 0, 1) := by decide +kernel
theorem dL_law_436 : decode cL_law 436 = .ok (.iload_n 3, 1) := by decide +kernel
theorem dL_law_437 : decode cL_law 437 = .ok (.iconst 1, 1) := by decide +kernel
theorem dL_law_438 : decode cL_law 438 = .ok (.iadd, 1) := by decide +kernel
theorem dL_law_439 : decode cL_law 439 = .ok (.iaload, 1) := by decide +kernel
theorem dL_law_440 : decode cL_law 440 = .ok (.aload_n 0, 1) := by decide +kernel
theorem dL_law_441 : decode cL_law 441 = .ok (.iload_n 3, 1) := by decide +kernel
theorem dL_law_442 : decode cL_law 442 = .ok (.iconst 2, 1) := by decide +kernel
theorem dL_law_443 : decode cL_law 443 = .ok (.iadd, 1) := by decide +kernel
theorem dL_law_444 : decode cL_law 444 = .ok (.iaload, 1) := by decide +kernel
theorem dL_law_445 : decode cL_law 445 = .ok (.invokevirtual 52, 3) := by decide +kernel
theorem dL_law_448 : decode cL_law 448 = .ok (.pop, 1) := by decide +kernel
theorem dL_law_449 : decode cL_law 449 = .ok (.aload_n 2, 1) := by decide +kernel
theorem dL_law_450 : decode cL_law 450 = .ok (.aload_n 0, 1) := by decide +kernel
theorem dL_law_451 : decode cL_law 451 = .ok (.iload_n 3, 1) := by decide +kernel
theorem dL_law_452 : decode cL_law 452 = .ok (.iconst 1, 1) := by decide +kernel
theorem dL_law_453 : decode cL_law 453 = .ok (.iadd, 1) := by decide +kernel
theorem dL_law_454 : decode cL_law 454 = .ok (.iaload, 1) := by decide +kernel
theorem dL_law_455 : decode cL_law 455 = .ok (.aload_n 0, 1) := by decide +kernel
theorem dL_law_456 : decode cL_law 456 = .ok (.iload_n 3, 1) := by decide +kernel
theorem dL_law_457 : decode cL_law 457 = .ok (.iconst 2, 1) := by decide +kernel
theorem dL_law_458 : decode cL_law 458 = .ok (.iadd, 1) := by decide +kernel
theorem dL_law_459 : decode cL_law 459 = .ok (.iaload, 1) := by decide +kernel
theorem dL_law_460 : decode cL_law 460 = .ok (.invokevirtual 55, 3) := by decide +kernel
theorem dL_law_463 : decode cL_law 463 = .ok (.pop, 1) := by decide +kernel
theorem dL_law_464 : decode cL_law 464 = .ok (.goto 417, 3) := by decide +kernel
theorem dL_law_467 : decode cL_law 467 = .ok (.aload_n 1, 1) := by decide +kernel
theorem dL_law_468 : decode cL_law 468 = .ok (.aload_n 0, 1) := by decide +kernel
theorem dL_law_469 : decode cL_law 469 = .ok (.iload_n 3, 1) := by decide +kernel
theorem dL_law_470 : decode cL_law 470 = .ok (.iconst 1, 1) := by decide +kernel
theorem dL_law_471 : decode cL_law 471 = .ok (.iadd, 1) := by decide +kernel
theorem dL_law_472 : decode cL_law 472 = .ok (.iaload, 1) := by decide +kernel
theorem dL_law_473 : decode cL_law 473 = .ok (.aload_n 0, 1) := by decide +kernel
theorem dL_law_474 : decode cL_law 474 = .ok (.iload_n 3, 1) := by decide +kernel
theorem dL_law_475 : decode cL_law 475 = .ok (.iconst 2, 1) := by decide +kernel
theorem dL_law_476 : decode cL_law 476 = .ok (.iadd, 1) := by decide +kernel
theorem dL_law_477 : decode cL_law 477 = .ok (.iaload, 1) := by decide +kernel
theorem dL_law_478 : decode cL_law 478 = .ok (.invokevirtual 56, 3) := by decide +kernel
theorem dL_law_481 : decode cL_law 481 = .ok (.pop, 1) := by decide +kernel
theorem dL_law_482 : decode cL_law 482 = .ok (.aload_n 2, 1) := by decide +kernel
theorem dL_law_483 : decode cL_law 483 = .ok (.aload_n 0, 1) := by decide +kernel
theorem dL_law_484 : decode cL_law 484 = .ok (.iload_n 3, 1) := by decide +kernel
theorem dL_law_485 : decode cL_law 485 = .ok (.iconst 1, 1) := by decide +kernel
theorem dL_law_486 : decode cL_law 486 = .ok (.iadd, 1) := by decide +kernel
theorem dL_law_487 : decode cL_law 487 = .ok (.iaload, 1) := by decide +kernel
theorem dL_law_488 : decode cL_law 488 = .ok (.aload_n 0, 1) := by decide +kernel
theorem dL_law_489 : decode cL_law 489 = .ok (.iload_n 3, 1) := by decide +kernel
theorem dL_law_490 : decode cL_law 490 = .ok (.iconst 2, 1) := by decide +kernel
theorem dL_law_491 : decode cL_law 491 = .ok (.iadd, 1) := by decide +kernel
theorem dL_law_492 : decode cL_law 492 = .ok (.iaload, 1) := by decide +kernel
theorem dL_law_493 : decode cL_law 493 = .ok (.invokevirtual 59, 3) := by decide +kernel
theorem dL_law_496 : decode cL_law 496 = .ok (.pop, 1) := by decide +kernel
theorem dL_law_497 : decode cL_law 497 = .ok (.goto 384, 3) := by decide +kernel
theorem dL_law_500 : decode cL_law 500 = .ok (.aload_n 1, 1) := by decide +kernel
theorem dL_law_501 : decode cL_law 501 = .ok (.aload_n 0, 1) := by decide +kernel
theorem dL_law_502 : decode cL_law 502 = .ok (.iload_n 3, 1) := by decide +kernel
theorem dL_law_503 : decode cL_law 503 = .ok (.iconst 1, 1) := by decide +kernel
theorem dL_law_504 : decode cL_law 504 = .ok (.iadd, 1) := by decide +kernel
theorem dL_law_505 : decode cL_law 505 = .ok (.iaload, 1) := by decide +kernel
theorem dL_law_506 : decode cL_law 506 = .ok (.invokevirtual 60, 3) := by decide +kernel
theorem dL_law_509 : decode cL_law 509 = .ok (.pop, 1) := by decide +kernel
theorem dL_law_510 : decode cL_law 510 = .ok (.aload_n 2, 1) := by decide +kernel
theorem dL_law_511 : decode cL_law 511 = .ok (.aload_n 0, 1) := by decide +kernel
theorem dL_law_512 : decode cL_law 512 = .ok (.iload_n 3, 1) := by decide +kernel
theorem dL_law_513 : decode cL_law 513 = .ok (.iconst 1, 1) := by decide +kernel
theorem dL_law_514 : decode cL_law 514 = .ok (.iadd, 1) := by decide +kernel
theorem dL_law_515 : decode cL_law 515 = .ok (.iaload, 1) := by decide +kernel
theorem dL_law_516 : decode cL_law 516 = .ok (.invokevirtual 63, 3) := by decide +kernel
theorem dL_law_519 : decode cL_law 519 = .ok (.pop, 1) := by decide +kernel
theorem dL_law_520 : decode cL_law 520 = .ok (.goto 361, 3) := by decide +kernel
theorem dL_law_523 : decode cL_law 523 = .ok (.aload_n 1, 1) := by decide +kernel
theorem dL_law_524 : decode cL_law 524 = .ok (.aload_n 0, 1) := by decide +kernel
theorem dL_law_525 : decode cL_law 525 = .ok (.iload_n 3, 1) := by decide +kernel
theorem dL_law_526 : decode cL_law 526 = .ok (.iconst 1, 1) := by decide +kernel
theorem dL_law_527 : decode cL_law 527 = .ok (.iadd, 1) := by decide +kernel
theorem dL_law_528 : decode cL_law 528 = .ok (.iaload, 1) := by decide +kernel
theorem dL_law_529 : decode cL_law 529 = .ok (.aload_n 0, 1) := by decide +kernel
theorem dL_law_530 : decode cL_law 530 = .ok (.iload_n 3, 1) := by decide +kernel
theorem dL_law_531 : decode cL_law 531 = .ok (.iconst 2, 1) := by decide +kernel
theorem dL_law_532 : decode cL_law 532 = .ok (.iadd, 1) := by decide +kernel
theorem dL_law_533 : decode cL_law 533 = .ok (.iaload, 1) := by decide +kernel
theorem dL_law_534 : decode cL_law 534 = .ok (.invokevirtual 64, 3) := by decide +kernel
theorem dL_law_537 : decode cL_law 537 = .ok (.pop, 1) := by decide +kernel
theorem dL_law_538 : decode cL_law 538 = .ok (.aload_n 2, 1) := by decide +kernel
theorem dL_law_539 : decode cL_law 539 = .ok (.aload_n 0, 1) := by decide +kernel
theorem dL_law_540 : decode cL_law 540 = .ok (.iload_n 3, 1) := by decide +kernel
theorem dL_law_541 : decode cL_law 541 = .ok (.iconst 1, 1) := by decide +kernel
theorem dL_law_542 : decode cL_law 542 = .ok (.iadd, 1) := by decide +kernel
theorem dL_law_543 : decode cL_law 543 = .ok (.iaload, 1) := by decide +kernel
theorem dL_law_544 : decode cL_law 544 = .ok (.aload_n 0, 1) := by decide +kernel
theorem dL_law_545 : decode cL_law 545 = .ok (.iload_n 3, 1) := by decide +kernel
theorem dL_law_546 : decode cL_law 546 = .ok (.iconst 2, 1) := by decide +kernel
theorem dL_law_547 : decode cL_law 547 = .ok (.iadd, 1) := by decide +kernel
theorem dL_law_548 : decode cL_law 548 = .ok (.iaload, 1) := by decide +kernel
theorem dL_law_549 : decode cL_law 549 = .ok (.invokevirtual 67, 3) := by decide +kernel
theorem dL_law_552 : decode cL_law 552 = .ok (.pop, 1) := by decide +kernel
theorem dL_law_553 : decode cL_law 553 = .ok (.goto 328, 3) := by decide +kernel
theorem dL_law_556 : decode cL_law 556 = .ok (.aload_n 1, 1) := by decide +kernel
theorem dL_law_557 : decode cL_law 557 = .ok (.aload_n 0, 1) := by decide +kernel
theorem dL_law_558 : decode cL_law 558 = .ok (.iload_n 3, 1) := by decide +kernel
theorem dL_law_559 : decode cL_law 559 = .ok (.iconst 1, 1) := by decide +kernel
theorem dL_law_560 : decode cL_law 560 = .ok (.iadd, 1) := by decide +kernel
theorem dL_law_561 : decode cL_law 561 = .ok (.iaload, 1) := by decide +kernel
theorem dL_law_562 : decode cL_law 562 = .ok (.aload_n 0, 1) := by decide +kernel
theorem dL_law_563 : decode cL_law 563 = .ok (.iload_n 3, 1) := by decide +kernel
theorem dL_law_564 : decode cL_law 564 = .ok (.iconst 2, 1) := by decide +kernel
theorem dL_law_565 : decode cL_law 565 = .ok (.iadd, 1) := by decide +kernel
theorem dL_law_566 : decode cL_law 566 = .ok (.iaload, 1) := by decide +kernel
theorem dL_law_567 : decode cL_law 567 = .ok (.invokevirtual 68, 3) := by decide +kernel
theorem dL_law_570 : decode cL_law 570 = .ok (.pop, 1) := by decide +kernel
theorem dL_law_571 : decode cL_law 571 = .ok (.aload_n 2, 1) := by decide +kernel
theorem dL_law_572 : decode cL_law 572 = .ok (.aload_n 0, 1) := by decide +kernel
theorem dL_law_573 : decode cL_law 573 = .ok (.iload_n 3, 1) := by decide +kernel
theorem dL_law_574 : decode cL_law 574 = .ok (.iconst 1, 1) := by decide +kernel
theorem dL_law_575 : decode cL_law 575 = .ok (.iadd, 1) := by decide +kernel
theorem dL_law_576 : decode cL_law 576 = .ok (.iaload, 1) := by decide +kernel
theorem dL_law_577 : decode cL_law 577 = .ok (.aload_n 0, 1) := by decide +kernel
theorem dL_law_578 : decode cL_law 578 = .ok (.iload_n 3, 1) := by decide +kernel
theorem dL_law_579 : decode cL_law 579 = .ok (.iconst 2, 1) := by decide +kernel
theorem dL_law_580 : decode cL_law 580 = .ok (.iadd, 1) := by decide +kernel
theorem dL_law_581 : decode cL_law 581 = .ok (.iaload, 1) := by decide +kernel
theorem dL_law_582 : decode cL_law 582 = .ok (.invokevirtual 72, 3) := by decide +kernel
theorem dL_law_585 : decode cL_law 585 = .ok (.pop, 1) := by decide +kernel
theorem dL_law_586 : decode cL_law 586 = .ok (.goto 295, 3) := by decide +kernel
theorem dL_law_589 : decode cL_law 589 = .ok (.aload_n 1, 1) := by decide +kernel
theorem dL_law_590 : decode cL_law 590 = .ok (.aload_n 0, 1) := by decide +kernel
theorem dL_law_591 : decode cL_law 591 = .ok (.iload_n 3, 1) := by decide +kernel
theorem dL_law_592 : decode cL_law 592 = .ok (.iconst 1, 1) := by decide +kernel
theorem dL_law_593 : decode cL_law 593 = .ok (.iadd, 1) := by decide +kernel
theorem dL_law_594 : decode cL_law 594 = .ok (.iaload, 1) := by decide +kernel
theorem dL_law_595 : decode cL_law 595 = .ok (.aload_n 0, 1) := by decide +kernel
theorem dL_law_596 : decode cL_law 596 = .ok (.iload_n 3, 1) := by decide +kernel
theorem dL_law_597 : decode cL_law 597 = .ok (.iconst 2, 1) := by decide +kernel
theorem dL_law_598 : decode cL_law 598 = .ok (.iadd, 1) := by decide +kernel
theorem dL_law_599 : decode cL_law 599 = .ok (.iaload, 1) := by decide +kernel
theorem dL_law_600 : decode cL_law 600 = .ok (.invokevirtual 73, 3) := by decide +kernel
theorem dL_law_603 : decode cL_law 603 = .ok (.pop, 1) := by decide +kernel
theorem dL_law_604 : decode cL_law 604 = .ok (.aload_n 2, 1) := by decide +kernel
theorem dL_law_605 : decode cL_law 605 = .ok (.aload_n 0, 1) := by decide +kernel
theorem dL_law_606 : decode cL_law 606 = .ok (.iload_n 3, 1) := by decide +kernel
theorem dL_law_607 : decode cL_law 607 = .ok (.iconst 1, 1) := by decide +kernel
theorem dL_law_608 : decode cL_law 608 = .ok (.iadd, 1) := by decide +kernel
theorem dL_law_609 : decode cL_law 609 = .ok (.iaload, 1) := by decide +kernel
theorem dL_law_610 : decode cL_law 610 = .ok (.aload_n 0, 1) := by decide +kernel
theorem dL_law_611 : decode cL_law 611 = .ok (.iload_n 3, 1) := by decide +kernel
theorem dL_law_612 : decode cL_law 612 = .ok (.iconst 2, 1) := by decide +kernel
theorem dL_law_613 : decode cL_law 613 = .ok (.iadd, 1) := by decide +kernel
theorem dL_law_614 : decode cL_law 614 = .ok (.iaload, 1) := by decide +kernel
theorem dL_law_615 : decode cL_law 615 = .ok (.invokevirtual 76, 3) := by decide +kernel
theorem dL_law_618 : decode cL_law 618 = .ok (.pop, 1) := by decide +kernel
theorem dL_law_619 : decode cL_law 619 = .ok (.goto 262, 3) := by decide +kernel
theorem dL_law_622 : decode cL_law 622 = .ok (.aload_n 1, 1) := by decide +kernel
theorem dL_law_623 : decode cL_law 623 = .ok (.invokevirtual 77, 3) := by decide +kernel
theorem dL_law_626 : decode cL_law 626 = .ok (.pop, 1) := by decide +kernel
theorem dL_law_627 : decode cL_law 627 = .ok (.aload_n 2, 1) := by decide +kernel
theorem dL_law_628 : decode cL_law 628 = .ok (.invokevirtual 81, 3) := by decide +kernel
theorem dL_law_631 : decode cL_law 631 = .ok (.pop, 1) := by decide +kernel
theorem dL_law_632 : decode cL_law 632 = .ok (.goto 249, 3) := by decide +kernel
theorem dL_law_635 : decode cL_law 635 = .ok (.aload_n 1, 1) := by decide +kernel
theorem dL_law_636 : decode cL_law 636 = .ok (.aload_n 0, 1) := by decide +kernel
theorem dL_law_637 : decode cL_law 637 = .ok (.iload_n 3, 1) := by decide +kernel
theorem dL_law_638 : decode cL_law 638 = .ok (.iconst 1, 1) := by decide +kernel
theorem dL_law_639 : decode cL_law 639 = .ok (.iadd, 1) := by decide +kernel
theorem dL_law_640 : decode cL_law 640 = .ok (.iaload, 1) := by decide +kernel
theorem dL_law_641 : decode cL_law 641 = .ok (.invokevirtual 82, 3) := by decide +kernel
theorem dL_law_644 : decode cL_law 644 = .ok (.pop2, 1) := by decide +kernel
theorem dL_law_645 : decode cL_law 645 = .ok (.aload_n 2, 1) := by decide +kernel
theorem dL_law_646 : decode cL_law 646 = .ok (.aload_n 0, 1) := by decide +kernel
theorem dL_law_647 : decode cL_law 647 = .ok (.iload_n 3, 1) := by decide +kernel
theorem dL_law_648 : decode cL_law 648 = .ok (.iconst 1, 1) := by decide +kernel
theorem dL_law_649 : decode cL_law 649 = .ok (.iadd, 1) := by decide +kernel
theorem dL_law_650 : decode cL_law 650 = .ok (.iaload, 1) := by decide +kernel
theorem dL_law_651 : decode cL_law 651 = .ok (.invokevirtual 86, 3) := by decide +kernel
theorem dL_law_654 : decode cL_law 654 = .ok (.pop2, 1) := by decide +kernel
theorem dL_law_655 : decode cL_law 655 = .ok (.goto 226, 3) := by decide +kernel
theorem dL_law_658 : decode cL_law 658 = .ok (.aload_n 1, 1) := by decide +kernel
theorem dL_law_659 : decode cL_law 659 = .ok (.aload_n 0, 1) := by decide +kernel
theorem dL_law_660 : decode cL_law 660 = .ok (.iload_n 3, 1) := by decide +kernel
theorem dL_law_661 : decode cL_law 661 = .ok (.iconst 1, 1) := by decide +kernel
theorem dL_law_662 : decode cL_law 662 = .ok (.iadd, 1) := by decide +kernel
theorem dL_law_663 : decode cL_law 663 = .ok (.iaload, 1) := by decide +kernel
theorem dL_law_664 : decode cL_law 664 = .ok (.aload_n 0, 1) := by decide +kernel
theorem dL_law_665 : decode cL_law 665 = .ok (.iload_n 3, 1) := by decide +kernel
theorem dL_law_666 : decode cL_law 666 = .ok (.iconst 2, 1) := by decide +kernel
theorem dL_law_667 : decode cL_law 667 = .ok (.iadd, 1) := by decide +kernel
theorem dL_law_668 : decode cL_law 668 = .ok (.iaload, 1) := by decide +kernel
theorem dL_law_669 : decode cL_law 669 = .ok (.invokevirtual 87, 3) := by decide +kernel
theorem dL_law_672 : decode cL_law 672 = .ok (.pop2, 1) := by decide +kernel
theorem dL_law_673 : decode cL_law 673 = .ok (.aload_n 2, 1) := by decide +kernel
theorem dL_law_674 : decode cL_law 674 = .ok (.aload_n 0, 1) := by decide +kernel
theorem dL_law_675 : decode cL_law 675 = .ok (.iload_n 3, 1) := by decide +kernel
theorem dL_law_676 : decode cL_law 676 = .ok (.iconst 1, 1) := by decide +kernel
theorem dL_law_677 : decode cL_law 677 = .ok (.iadd, 1) := by decide +kernel
theorem dL_law_678 : decode cL_law 678 = .ok (.iaload, 1) := by decide +kernel
theorem dL_law_679 : decode cL_law 679 = .ok (.aload_n 0, 1) := by decide +kernel
theorem dL_law_680 : decode cL_law 680 = .ok (.iload_n 3, 1) := by decide +kernel
theorem dL_law_681 : decode cL_law 681 = .ok (.iconst 2, 1) := by decide +kernel
theorem dL_law_682 : decode cL_law 682 = .ok (.iadd, 1) := by decide +kernel
theorem dL_law_683 : decode cL_law 683 = .ok (.iaload, 1) := by decide +kernel
theorem dL_law_684 : decode cL_law 684 = .ok (.invokevirtual 91, 3) := by decide +kernel
theorem dL_law_687 : decode cL_law 687 = .ok (.pop2, 1) := by decide +kernel
theorem dL_law_688 : decode cL_law 688 = .ok (.goto 193, 3) := by decide +kernel
theorem dL_law_691 : decode cL_law 691 = .ok (.aload_n 1, 1) := by decide +kernel
theorem dL_law_692 : decode cL_law 692 = .ok (.aload_n 0, 1) := by decide +kernel
theorem dL_law_693 : decode cL_law 693 = .ok (.iload_n 3, 1) := by decide +kernel
theorem dL_law_694 : decode cL_law 694 = .ok (.iconst 1, 1) := by decide +kernel
theorem dL_law_695 : decode cL_law 695 = .ok (.iadd, 1) := by decide +kernel
theorem dL_law_696 : decode cL_law 696 = .ok (.iaload, 1) := by decide +kernel
theorem dL_law_697 : decode cL_law 697 = .ok (.invokevirtual 92, 3) := by decide +kernel
theorem dL_law_700 : decode cL_law 700 = .ok (.pop, 1) := by decide +kernel
theorem dL_law_701 : decode cL_law 701 = .ok (.aload_n 2, 1) := by decide +kernel
theorem dL_law_702 : decode cL_law 702 = .ok (.aload_n 0, 1) := by decide +kernel
theorem dL_law_703 : decode cL_law 703 = .ok (.iload_n 3, 1) := by decide +kernel
theorem dL_law_704 : decode cL_law 704 = .ok (.iconst 1, 1) := by decide +kernel
theorem dL_law_705 : decode cL_law 705 = .ok (.iadd, 1) := by decide +kernel
theorem dL_law_706 : decode cL_law 706 = .ok (.iaload, 1) := by decide +kernel
theorem dL_law_707 : decode cL_law 707 = .ok (.invokevirtual 95, 3) := by decide +kernel
theorem dL_law_710 : decode cL_law 710 = .ok (.pop, 1) := by decide +kernel
theorem dL_law_711 : decode cL_law 711 = .ok (.goto 170, 3) := by decide +kernel
theorem dL_law_714 : decode cL_law 714 = .ok (.aload_n 1, 1) := by decide +kernel
theorem dL_law_715 : decode cL_law 715 = .ok (.aload_n 0, 1) := by decide +kernel
theorem dL_law_716 : decode cL_law 716 = .ok (.iload_n 3, 1) := by decide +kernel
theorem dL_law_717 : decode cL_law 717 = .ok (.iconst 1, 1) := by decide +kernel
theorem dL_law_718 : decode cL_law 718 = .ok (.iadd, 1) := by decide +kernel
theorem dL_law_719 : decode cL_law 719 = .ok (.iaload, 1) := by decide +kernel
theorem dL_law_720 : decode cL_law 720 = .ok (.ifCond .eq 7, 3) := by decide +kernel
theorem dL_law_723 : decode cL_law 723 = .ok (.iconst 1, 1) := by decide +kernel
theorem dL_law_724 : decode cL_law 724 = .ok (.goto 4, 3) := by decide +kernel
theorem dL_law_727 : decode cL_law 727 = .ok (.iconst 0, 1) := by decide +kernel
theorem dL_law_728 : decode cL_law 728 = .ok (.aload_n 0, 1) := by decide +kernel
theorem dL_law_729 : decode cL_law 729 = .ok (.iload_n 3, 1) := by decide +kernel
theorem dL_law_730 : decode cL_law 730 = .ok (.iconst 2, 1) := by decide +kernel
theorem dL_law_731 : decode cL_law 731 = .ok (.iadd, 1) := by decide +kernel
theorem dL_law_732 : decode cL_law 732 = .ok (.iaload, 1) := by decide +kernel
theorem dL_law_733 : decode cL_law 733 = .ok (.ifCond .eq 7, 3) := by decide +kernel
theorem dL_law_736 : decode cL_law 736 = .ok (.iconst 1, 1) := by decide +kernel
theorem dL_law_737 : decode cL_law 737 = .ok (.goto 4, 3) := by decide +kernel
theorem dL_law_740 : decode cL_law 740 = .ok (.iconst 0, 1) := by decide +kernel
theorem dL_law_741 : decode cL_law 741 = .ok (.invokevirtual 96, 3) := by decide +kernel
theorem dL_law_744 : decode cL_law 744 = .ok (.pop, 1) := by decide +kernel
theorem dL_law_745 : decode cL_law 745 = .ok (.aload_n 2, 1) := by decide +kernel
theorem dL_law_746 : decode cL_law 746 = .ok (.aload_n 0, 1) := by decide +kernel
theorem dL_law_747 : decode cL_law 747 = .ok (.iload_n 3, 1) := by decide +kernel
theorem dL_law_748 : decode cL_law 748 = .ok (.iconst 1, 1) := by decide +kernel
theorem dL_law_749 : decode cL_law 749 = .ok (.iadd, 1) := by decide +kernel
theorem dL_law_750 : decode cL_law 750 = .ok (.iaload, 1) := by decide +kernel
theorem dL_law_751 : decode cL_law 751 = .ok (.ifCond .eq 7, 3) := by decide +kernel
theorem dL_law_754 : decode cL_law 754 = .ok (.iconst 1, 1) := by decide +kernel
theorem dL_law_755 : decode cL_law 755 = .ok (.goto 4, 3) := by decide +kernel
theorem dL_law_758 : decode cL_law 758 = .ok (.iconst 0, 1) := by decide +kernel
theorem dL_law_759 : decode cL_law 759 = .ok (.aload_n 0, 1) := by decide +kernel
theorem dL_law_760 : decode cL_law 760 = .ok (.iload_n 3, 1) := by decide +kernel
theorem dL_law_761 : decode cL_law 761 = .ok (.iconst 2, 1) := by decide +kernel
theorem dL_law_762 : decode cL_law 762 = .ok (.iadd, 1) := by decide +kernel
theorem dL_law_763 : decode cL_law 763 = .ok (.iaload, 1) := by decide +kernel
theorem dL_law_764 : decode cL_law 764 = .ok (.ifCond .eq 7, 3) := by decide +kernel
theorem dL_law_767 : decode cL_law 767 = .ok (.iconst 1, 1) := by decide +kernel
theorem dL_law_768 : decode cL_law 768 = .ok (.goto 4, 3) := by decide +kernel
theorem dL_law_771 : decode cL_law 771 = .ok (.iconst 0, 1) := by decide +kernel
theorem dL_law_772 : decode cL_law 772 = .ok (.invokevirtual 100, 3) := by decide +kernel
theorem dL_law_775 : decode cL_law 775 = .ok (.pop, 1) := by decide +kernel
theorem dL_law_776 : decode cL_law 776 = .ok (.goto 105, 3) := by decide +kernel
theorem dL_law_779 : decode cL_law 779 = .ok (.aload_n 1, 1) := by decide +kernel
theorem dL_law_780 : decode cL_law 780 = .ok (.aload_n 0, 1) := by decide +kernel
theorem dL_law_781 : decode cL_law 781 = .ok (.iload_n 3, 1) := by decide +kernel
theorem dL_law_782 : decode cL_law 782 = .ok (.iconst 1, 1) := by decide +kernel
theorem dL_law_783 : decode cL_law 783 = .ok (.iadd, 1) := by decide +kernel
theorem dL_law_784 : decode cL_law 784 = .ok (.iaload, 1) := by decide +kernel
theorem dL_law_785 : decode cL_law 785 = .ok (.invokevirtual 101, 3) := by decide +kernel
theorem dL_law_788 : decode cL_law 788 = .ok (.pop, 1) := by decide +kernel
theorem dL_law_789 : decode cL_law 789 = .ok (.aload_n 2, 1) := by decide +kernel
theorem dL_law_790 : decode cL_law 790 = .ok (.aload_n 0, 1) := by decide +kernel
theorem dL_law_791 : decode cL_law 791 = .ok (.iload_n 3, 1) := by decide +kernel
theorem dL_law_792 : decode cL_law 792 = .ok (.iconst 1, 1) := by decide +kernel
theorem dL_law_793 : decode cL_law 793 = .ok (.iadd, 1) := by decide +kernel
theorem dL_law_794 : decode cL_law 794 = .ok (.iaload, 1) := by decide +kernel
theorem dL_law_795 : decode cL_law 795 = .ok (.invokevirtual 104, 3) := by decide +kernel
theorem dL_law_798 : decode cL_law 798 = .ok (.pop, 1) := by decide +kernel
theorem dL_law_799 : decode cL_law 799 = .ok (.goto 82, 3) := by decide +kernel
theorem dL_law_802 : decode cL_law 802 = .ok (.aload_n 1, 1) := by decide +kernel
theorem dL_law_803 : decode cL_law 803 = .ok (.aload_n 0, 1) := by decide +kernel
theorem dL_law_804 : decode cL_law 804 = .ok (.iload_n 3, 1) := by decide +kernel
theorem dL_law_805 : decode cL_law 805 = .ok (.iconst 1, 1) := by decide +kernel
theorem dL_law_806 : decode cL_law 806 = .ok (.iadd, 1) := by decide +kernel
theorem dL_law_807 : decode cL_law 807 = .ok (.iaload, 1) := by decide +kernel
theorem dL_law_808 : decode cL_law 808 = .ok (.aload_n 0, 1) := by decide +kernel
theorem dL_law_809 : decode cL_law 809 = .ok (.iload_n 3, 1) := by decide +kernel
theorem dL_law_810 : decode cL_law 810 = .ok (.iconst 2, 1) := by decide +kernel
theorem dL_law_811 : decode cL_law 811 = .ok (.iadd, 1) := by decide +kernel
theorem dL_law_812 : decode cL_law 812 = .ok (.iaload, 1) := by decide +kernel
theorem dL_law_813 : decode cL_law 813 = .ok (.invokevirtual 105, 3) := by decide +kernel
theorem dL_law_816 : decode cL_law 816 = .ok (.pop, 1) := by decide +kernel
theorem dL_law_817 : decode cL_law 817 = .ok (.aload_n 2, 1) := by decide +kernel
theorem dL_law_818 : decode cL_law 818 = .ok (.aload_n 0, 1) := by decide +kernel
theorem dL_law_819 : decode cL_law 819 = .ok (.iload_n 3, 1) := by decide +kernel
