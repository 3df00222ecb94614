set_option maxRecDepth 20000 in
theorem gX8_share_X8_has : GoodIn wsX8_share (va_wsS RX8 51 yX8_has wsX8_has) := goodIn_app (goodIn_of _ (by decide +kernel)) ggX8_share_X8_has
set_option maxRecDepth 20000 in
theorem ggX8_share_X8_many : GoodIn wsX8_share wsX8_many := goodIn_r _ [37, 16, 17, 7, 18] (by decide +kernel) (by decide +kernel)
set_option maxRecDepth 20000 in
theorem gX8_share_X8_many : GoodIn wsX8_share (va_wsS RX8 129 yX8_many wsX8_many) := goodIn_app (goodIn_of _ (by decide +kernel)) ggX8_share_X8_many
set_option maxRecDepth 20000 in
theorem ggX8_share_X8_orders : GoodIn wsX8_share wsX8_orders := goodIn_r _ [40] (by decide +kernel) (by decide +kernel)
set_option maxRecDepth 20000 in
theorem gX8_share_X8_orders : GoodIn wsX8_share (va_wsS RX8 234 yX8_orders wsX8_orders) := goodIn_app (goodIn_of _ (by decide +kernel)) ggX8_share_X8_orders
set_option maxRecDepth 20000 in
theorem ggX8_share_X8_fraction : GoodIn wsX8_share wsX8_fraction := goodIn_r _ [43, 44, 45, 7, 46] (by decide +kernel) (by decide +kernel)
set_option maxRecDepth 20000 in
theorem gX8_share_X8_fraction : GoodIn wsX8_share (va_wsS RX8 201 yX8_fraction wsX8_fraction) := goodIn_app (goodIn_of _ (by decide +kernel)) ggX8_share_X8_fraction
theorem dX8_share_0 : decode cX8_share 0 = .ok (.aload_n 0, 1) := by decide +kernel
theorem dX8_share_1 : decode cX8_share 1 = .ok (.iconst 0, 1) := by decide +kernel
theorem dX8_share_2 : decode cX8_share 2 = .ok (.putfield 47, 3) := by decide +kernel
theorem dX8_share_5 : decode cX8_share 5 = .ok (.aload_n 0, 1) := by decide +kernel
theorem dX8_share_6 : decode cX8_share 6 = .ok (.getfield 16, 3) := by decide +kernel
theorem dX8_share_9 : decode cX8_share 9 = .ok (.iconst 2, 1) := by decide +kernel
theorem dX8_share_10 : decode cX8_share 10 = .ok (.iaload, 1) := by decide +kernel
theorem dX8_share_11 : decode cX8_share 11 = .ok (.istore 4, 2) := by decide +kernel
theorem dX8_share_13 : decode cX8_share 13 = .ok (.iload_n 1, 1) := by decide +kernel
theorem dX8_share_14 : decode cX8_share 14 = .ok (.i2l, 1) := by decide +kernel
theorem dX8_share_15 : decode cX8_share 15 = .ok (.lconst 0, 1) := by decide +kernel
theorem dX8_share_16 : decode cX8_share 16 = .ok (.iload 4, 2) := by decide +kernel
theorem dX8_share_18 : decode cX8_share 18 = .ok (.iconst 1, 1) := by decide +kernel
theorem dX8_share_19 : decode cX8_share 19 = .ok (.isub, 1) := by decide +kernel
theorem dX8_share_20 : decode cX8_share 20 = .ok (.i2l, 1) := by decide +kernel
theorem dX8_share_21 : decode cX8_share 21 = .ok (.invokestatic 59, 3) := by decide +kernel
theorem dX8_share_24 : decode cX8_share 24 = .ok (.ifCond .ne 5, 3) := by decide +kernel
theorem dX8_share_27 : decode cX8_share 27 = .ok (.iconst (-1), 1) := by decide +kernel
theorem dX8_share_28 : decode cX8_share 28 = .ok (.ireturn, 1) := by decide +kernel
theorem dX8_share_29 : decode cX8_share 29 = .ok (.iload_n 2, 1) := by decide +kernel
theorem dX8_share_30 : decode cX8_share 30 = .ok (.i2l, 1) := by decide +kernel
theorem dX8_share_31 : decode cX8_share 31 = .ok (.lconst 0, 1) := by decide +kernel
theorem dX8_share_32 : decode cX8_share 32 = .ok (.ldc2_w 117, 3) := by decide +kernel
theorem dX8_share_35 : decode cX8_share 35 = .ok (.invokestatic 59, 3) := by decide +kernel
theorem dX8_share_38 : decode cX8_share 38 = .ok (.ifCond .ne 6, 3) := by decide +kernel
theorem dX8_share_41 : decode cX8_share 41 = .ok (.bipush (-2), 2) := by decide +kernel
theorem dX8_share_43 : decode cX8_share 43 = .ok (.ireturn, 1) := by decide +kernel
theorem dX8_share_44 : decode cX8_share 44 = .ok (.iconst 0, 1) := by decide +kernel
theorem dX8_share_45 : decode cX8_share 45 = .ok (.istore 5, 2) := by decide +kernel
theorem dX8_share_47 : decode cX8_share 47 = .ok (.iload 5, 2) := by decide +kernel
theorem dX8_share_49 : decode cX8_share 49 = .ok (.iconst 1, 1) := by decide +kernel
theorem dX8_share_50 : decode cX8_share 50 = .ok (.iload 4, 2) := by decide +kernel
theorem dX8_share_52 : decode cX8_share 52 = .ok (.ishl, 1) := by decide +kernel
theorem dX8_share_53 : decode cX8_share 53 = .ok (.if_icmp .ge 30, 3) := by decide +kernel
theorem dX8_share_56 : decode cX8_share 56 = .ok (.aload_n 0, 1) := by decide +kernel
theorem dX8_share_57 : decode cX8_share 57 = .ok (.getfield 44, 3) := by decide +kernel
theorem dX8_share_60 : decode cX8_share 60 = .ok (.iload 5, 2) := by decide +kernel
theorem dX8_share_62 : decode cX8_share 62 = .ok (.aload_n 0, 1) := by decide +kernel
theorem dX8_share_63 : decode cX8_share 63 = .ok (.getfield 16, 3) := by decide +kernel
theorem dX8_share_66 : decode cX8_share 66 = .ok (.iload_n 2, 1) := by decide +kernel
theorem dX8_share_67 : decode cX8_share 67 = .ok (.aload_n 0, 1) := by decide +kernel
theorem dX8_share_68 : decode cX8_share 68 = .ok (.iload 5, 2) := by decide +kernel
theorem dX8_share_70 : decode cX8_share 70 = .ok (.invokevirtual 230, 3) := by decide +kernel
theorem dX8_share_73 : decode cX8_share 73 = .ok (.invokestatic 162, 3) := by decide +kernel
theorem dX8_share_76 : decode cX8_share 76 = .ok (.iastore, 1) := by decide +kernel
theorem dX8_share_77 : decode cX8_share 77 = .ok (.iinc 5 1, 3) := by decide +kernel
theorem dX8_share_80 : decode cX8_share 80 = .ok (.goto (-33), 3) := by decide +kernel
theorem dX8_share_83 : decode cX8_share 83 = .ok (.iconst 0, 1) := by decide +kernel
theorem dX8_share_84 : decode cX8_share 84 = .ok (.istore 5, 2) := by decide +kernel
theorem dX8_share_86 : decode cX8_share 86 = .ok (.iconst 0, 1) := by decide +kernel
theorem dX8_share_87 : decode cX8_share 87 = .ok (.istore 6, 2) := by decide +kernel
theorem dX8_share_89 : decode cX8_share 89 = .ok (.iconst 0, 1) := by decide +kernel
theorem dX8_share_90 : decode cX8_share 90 = .ok (.istore 7, 2) := by decide +kernel
theorem dX8_share_92 : decode cX8_share 92 = .ok (.iload 7, 2) := by decide +kernel
theorem dX8_share_94 : decode cX8_share 94 = .ok (.iconst 1, 1) := by decide +kernel
theorem dX8_share_95 : decode cX8_share 95 = .ok (.iload 4, 2) := by decide +kernel
theorem dX8_share_97 : decode cX8_share 97 = .ok (.ishl, 1) := by decide +kernel
theorem dX8_share_98 : decode cX8_share 98 = .ok (.if_icmp .ge 66, 3) := by decide +kernel
theorem dX8_share_101 : decode cX8_share 101 = .ok (.iload 7, 2) := by decide +kernel
theorem dX8_share_103 : decode cX8_share 103 = .ok (.i2l, 1) := by decide +kernel
theorem dX8_share_104 : decode cX8_share 104 = .ok (.iload_n 1, 1) := by decide +kernel
theorem dX8_share_105 : decode cX8_share 105 = .ok (.invokestatic 51, 3) := by decide +kernel
theorem dX8_share_108 : decode cX8_share 108 = .ok (.ifCond .ne 50, 3) := by decide +kernel
theorem dX8_share_111 : decode cX8_share 111 = .ok (.iload 4, 2) := by decide +kernel
theorem dX8_share_113 : decode cX8_share 113 = .ok (.iload 7, 2) := by decide +kernel
theorem dX8_share_115 : decode cX8_share 115 = .ok (.i2l, 1) := by decide +kernel
theorem dX8_share_116 : decode cX8_share 116 = .ok (.invokestatic 129, 3) := by decide +kernel
theorem dX8_share_119 : decode cX8_share 119 = .ok (.invokestatic 234, 3) := by decide +kernel
theorem dX8_share_122 : decode cX8_share 122 = .ok (.istore 8, 2) := by decide +kernel
theorem dX8_share_124 : decode cX8_share 124 = .ok (.iload 6, 2) := by decide +kernel
theorem dX8_share_126 : decode cX8_share 126 = .ok (.iload 8, 2) := by decide +kernel
theorem dX8_share_128 : decode cX8_share 128 = .ok (.iadd, 1) := by decide +kernel
theorem dX8_share_129 : decode cX8_share 129 = .ok (.istore 6, 2) := by decide +kernel
theorem dX8_share_131 : decode cX8_share 131 = .ok (.iload 5, 2) := by decide +kernel
theorem dX8_share_133 : decode cX8_share 133 = .ok (.iload 8, 2) := by decide +kernel
theorem dX8_share_135 : decode cX8_share 135 = .ok (.aload_n 0, 1) := by decide +kernel
theorem dX8_share_136 : decode cX8_share 136 = .ok (.getfield 44, 3) := by decide +kernel
theorem dX8_share_139 : decode cX8_share 139 = .ok (.iload 7, 2) := by decide +kernel
theorem dX8_share_141 : decode cX8_share 141 = .ok (.iconst 1, 1) := by decide +kernel
theorem dX8_share_142 : decode cX8_share 142 = .ok (.iload_n 1, 1) := by decide +kernel
theorem dX8_share_143 : decode cX8_share 143 = .ok (.ishl, 1) := by decide +kernel
theorem dX8_share_144 : decode cX8_share 144 = .ok (.ior, 1) := by decide +kernel
theorem dX8_share_145 : decode cX8_share 145 = .ok (.iaload, 1) := by decide +kernel
theorem dX8_share_146 : decode cX8_share 146 = .ok (.aload_n 0, 1) := by decide +kernel
theorem dX8_share_147 : decode cX8_share 147 = .ok (.getfield 44, 3) := by decide +kernel
theorem dX8_share_150 : decode cX8_share 150 = .ok (.iload 7, 2) := by decide +kernel
theorem dX8_share_152 : decode cX8_share 152 = .ok (.iaload, 1) := by decide +kernel
theorem dX8_share_153 : decode cX8_share 153 = .ok (.isub, 1) := by decide +kernel
theorem dX8_share_154 : decode cX8_share 154 = .ok (.imul, 1) := by decide +kernel
theorem dX8_share_155 : decode cX8_share 155 = .ok (.iadd, 1) := by decide +kernel
theorem dX8_share_156 : decode cX8_share 156 = .ok (.istore 5, 2) := by decide +kernel
theorem dX8_share_158 : decode cX8_share 158 = .ok (.iinc 7 1, 3) := by decide +kernel
theorem dX8_share_161 : decode cX8_share 161 = .ok (.goto (-69), 3) := by decide +kernel
theorem dX8_share_164 : decode cX8_share 164 = .ok (.iload 5, 2) := by decide +kernel
theorem dX8_share_166 : decode cX8_share 166 = .ok (.iload 6, 2) := by decide +kernel
theorem dX8_share_168 : decode cX8_share 168 = .ok (.iload_n 3, 1) := by decide +kernel
theorem dX8_share_169 : decode cX8_share 169 = .ok (.invokestatic 201, 3) := by decide +kernel
theorem dX8_share_172 : decode cX8_share 172 = .ok (.ireturn, 1) := by decide +kernel
set_option maxRecDepth 20000 in
theorem ggX8_see_X8_noDot : GoodIn wsX8_see wsX8_noDot := goodIn_r _ [10, 11, 12, 13, 9, 14, 15, 16, 17, 18, 19, 20, 21, 22, 23, 24, 25, 26, 27, 28, 29, 30, 31, 32, 33, 34, 35, 36, 37, 38] (by decide +kernel) (by decide +kernel)
set_option maxRecDepth 20000 in
theorem gX8_see_X8_noDot : GoodIn wsX8_see (wsV RX8 148 RX8 yX8_noDot wsX8_noDot) := goodIn_app (goodIn_of _ (by decide +kernel)) ggX8_see_X8_noDot
set_option maxRecDepth 20000 in
theorem ggX8_see_X8_in : GoodIn wsX8_see wsX8_in := goodIn_r _ [17] (by decide +kernel) (by decide +kernel)
set_option maxRecDepth 20000 in
theorem gX8_see_X8_in : GoodIn wsX8_see (va_wsS RX8 59 yX8_in wsX8_in) := goodIn_app (goodIn_of _ (by decide +kernel)) ggX8_see_X8_in
theorem dX8_see_0 : decode cX8_see 0 = .ok (.aload_n 0, 1) := by decide +kernel
theorem dX8_see_1 : decode cX8_see 1 = .ok (.iconst 0, 1) := by decide +kernel
theorem dX8_see_2 : decode cX8_see 2 = .ok (.putfield 47, 3) := by decide +kernel
theorem dX8_see_5 : decode cX8_see 5 = .ok (.aload_n 0, 1) := by decide +kernel
theorem dX8_see_6 : decode cX8_see 6 = .ok (.iload_n 1, 1) := by decide +kernel
theorem dX8_see_7 : decode cX8_see 7 = .ok (.invokevirtual 148, 3) := by decide +kernel
theorem dX8_see_10 : decode cX8_see 10 = .ok (.ifCond .ne 11, 3) := by decide +kernel
theorem dX8_see_13 : decode cX8_see 13 = .ok (.aload_n 0, 1) := by decide +kernel
theorem dX8_see_14 : decode cX8_see 14 = .ok (.iload_n 2, 1) := by decide +kernel
theorem dX8_see_15 : decode cX8_see 15 = .ok (.invokevirtual 148, 3) := by decide +kernel
theorem dX8_see_18 : decode cX8_see 18 = .ok (.ifCond .eq 5, 3) := by decide +kernel
theorem dX8_see_21 : decode cX8_see 21 = .ok (.iconst (-1), 1) := by decide +kernel
theorem dX8_see_22 : decode cX8_see 22 = .ok (.ireturn, 1) := by decide +kernel
theorem dX8_see_23 : decode cX8_see 23 = .ok (.iload_n 3, 1) := by decide +kernel
theorem dX8_see_24 : decode cX8_see 24 = .ok (.i2l, 1) := by decide +kernel
theorem dX8_see_25 : decode cX8_see 25 = .ok (.lconst 0, 1) := by decide +kernel
theorem dX8_see_26 : decode cX8_see 26 = .ok (.lconst 1, 1) := by decide +kernel
theorem dX8_see_27 : decode cX8_see 27 = .ok (.invokestatic 59, 3) := by decide +kernel
theorem dX8_see_30 : decode cX8_see 30 = .ok (.ifCond .ne 6, 3) := by decide +kernel
theorem dX8_see_33 : decode cX8_see 33 = .ok (.bipush (-2), 2) := by decide +kernel
theorem dX8_see_35 : decode cX8_see 35 = .ok (.ireturn, 1) := by decide +kernel
theorem dX8_see_36 : decode cX8_see 36 = .ok (.aload_n 0, 1) := by decide +kernel
theorem dX8_see_37 : decode cX8_see 37 = .ok (.getfield 145, 3) := by decide +kernel
theorem dX8_see_40 : decode cX8_see 40 = .ok (.bipush 6, 2) := by decide +kernel
theorem dX8_see_42 : decode cX8_see 42 = .ok (.if_icmp .ne 6, 3) := by decide +kernel
theorem dX8_see_45 : decode cX8_see 45 = .ok (.bipush (-4), 2) := by decide +kernel
theorem dX8_see_47 : decode cX8_see 47 = .ok (.ireturn, 1) := by decide +kernel
theorem dX8_see_48 : decode cX8_see 48 = .ok (.aload_n 0, 1) := by decide +kernel
theorem dX8_see_49 : decode cX8_see 49 = .ok (.getfield 35, 3) := by decide +kernel
theorem dX8_see_52 : decode cX8_see 52 = .ok (.aload_n 0, 1) := by decide +kernel
theorem dX8_see_53 : decode cX8_see 53 = .ok (.getfield 145, 3) := by decide +kernel
theorem dX8_see_56 : decode cX8_see 56 = .ok (.iload_n 1, 1) := by decide +kernel
theorem dX8_see_57 : decode cX8_see 57 = .ok (.iastore, 1) := by decide +kernel
theorem dX8_see_58 : decode cX8_see 58 = .ok (.aload_n 0, 1) := by decide +kernel
theorem dX8_see_59 : decode cX8_see 59 = .ok (.getfield 38, 3) := by decide +kernel
theorem dX8_see_62 : decode cX8_see 62 = .ok (.aload_n 0, 1) := by decide +kernel
theorem dX8_see_63 : decode cX8_see 63 = .ok (.getfield 145, 3) := by decide +kernel
theorem dX8_see_66 : decode cX8_see 66 = .ok (.iload_n 2, 1) := by decide +kernel
theorem dX8_see_67 : decode cX8_see 67 = .ok (.iastore, 1) := by decide +kernel
theorem dX8_see_68 : decode cX8_see 68 = .ok (.aload_n 0, 1) := by decide +kernel
theorem dX8_see_69 : decode cX8_see 69 = .ok (.getfield 41, 3) := by decide +kernel
theorem dX8_see_72 : decode cX8_see 72 = .ok (.aload_n 0, 1) := by decide +kernel
theorem dX8_see_73 : decode cX8_see 73 = .ok (.getfield 145, 3) := by decide +kernel
theorem dX8_see_76 : decode cX8_see 76 = .ok (.iload_n 3, 1) := by decide +kernel
theorem dX8_see_77 : decode cX8_see 77 = .ok (.iastore, 1) := by decide +kernel
theorem dX8_see_78 : decode cX8_see 78 = .ok (.aload_n 0, 1) := by decide +kernel
theorem dX8_see_79 : decode cX8_see 79 = .ok (.dup, 1) := by decide +kernel
theorem dX8_see_80 : decode cX8_see 80 = .ok (.getfield 145, 3) := by decide +kernel
theorem dX8_see_83 : decode cX8_see 83 = .ok (.iconst 1, 1) := by decide +kernel
theorem dX8_see_84 : decode cX8_see 84 = .ok (.iadd, 1) := by decide +kernel
theorem dX8_see_85 : decode cX8_see 85 = .ok (.putfield 145, 3) := by decide +kernel
theorem dX8_see_88 : decode cX8_see 88 = .ok (.aload_n 0, 1) := by decide +kernel
theorem dX8_see_89 : decode cX8_see 89 = .ok (.getfield 145, 3) := by decide +kernel
theorem dX8_see_92 : decode cX8_see 92 = .ok (.ireturn, 1) := by decide +kernel
theorem dX8_unsee_0 : decode cX8_unsee 0 = .ok (.aload_n 0, 1) := by decide +kernel
theorem dX8_unsee_1 : decode cX8_unsee 1 = .ok (.iconst 0, 1) := by decide +kernel
theorem dX8_unsee_2 : decode cX8_unsee 2 = .ok (.putfield 47, 3) := by decide +kernel
theorem dX8_unsee_5 : decode cX8_unsee 5 = .ok (.aload_n 0, 1) := by decide +kernel
theorem dX8_unsee_6 : decode cX8_unsee 6 = .ok (.getfield 145, 3) := by decide +kernel
theorem dX8_unsee_9 : decode cX8_unsee 9 = .ok (.istore_n 1, 1) := by decide +kernel
theorem dX8_unsee_10 : decode cX8_unsee 10 = .ok (.aload_n 0, 1) := by decide +kernel
theorem dX8_unsee_11 : decode cX8_unsee 11 = .ok (.iconst 0, 1) := by decide +kernel
theorem dX8_unsee_12 : decode cX8_unsee 12 = .ok (.putfield 145, 3) := by decide +kernel
theorem dX8_unsee_15 : decode cX8_unsee 15 = .ok (.iload_n 1, 1) := by decide +kernel
theorem dX8_unsee_16 : decode cX8_unsee 16 = .ok (.ireturn, 1) := by decide +kernel
set_option maxRecDepth 20000 in
theorem ggX8_explains_X8_bright : GoodIn wsX8_explains wsX8_bright := goodIn_r _ [10, 11, 12, 9, 13, 14, 15, 16] (by decide +kernel) (by decide +kernel)
set_option maxRecDepth 20000 in
theorem gX8_explains_X8_bright : GoodIn wsX8_explains (va_wsS RX8 73 yX8_bright wsX8_bright) := goodIn_app (goodIn_of _ (by decide +kernel)) ggX8_explains_X8_bright
set_option maxRecDepth 20000 in
theorem ggX8_explains_X8_spread : GoodIn wsX8_explains wsX8_spread := goodIn_r _ [19, 2, 14, 15, 9, 16, 20, 21, 22, 11, 12, 13, 23, 24, 25] (by decide +kernel) (by decide +kernel)
set_option maxRecDepth 20000 in
theorem gX8_explains_X8_spread : GoodIn wsX8_explains (va_wsS RX8 77 yX8_spread wsX8_spread) := goodIn_app (goodIn_of _ (by decide +kernel)) ggX8_explains_X8_spread
set_option maxRecDepth 20000 in
theorem ggX8_explains_X8_has : GoodIn wsX8_explains wsX8_has := goodIn_r _ [16] (by decide +kernel) (by decide +kernel)
set_option maxRecDepth 20000 in
theorem gX8_explains_X8_has : GoodIn wsX8_explains (va_wsS RX8 51 yX8_has wsX8_has) := goodIn_app (goodIn_of _ (by decide +kernel)) ggX8_explains_X8_has
theorem dX8_explains_0 : decode cX8_explains 0 = .ok (.aload_n 0, 1) := by decide +kernel
theorem dX8_explains_1 : decode cX8_explains 1 = .ok (.getfield 16, 3) := by decide +kernel
theorem dX8_explains_4 : decode cX8_explains 4 = .ok (.iload_n 1, 1) := by decide +kernel
theorem dX8_explains_5 : decode cX8_explains 5 = .ok (.ldc2_w 67, 3) := by decide +kernel
theorem dX8_explains_8 : decode cX8_explains 8 = .ok (.invokestatic 73, 3) := by decide +kernel
theorem dX8_explains_11 : decode cX8_explains 11 = .ok (.lstore_n 3, 1) := by decide +kernel
theorem dX8_explains_12 : decode cX8_explains 12 = .ok (.iconst 1, 1) := by decide +kernel
theorem dX8_explains_13 : decode cX8_explains 13 = .ok (.istore 5, 2) := by decide +kernel
theorem dX8_explains_15 : decode cX8_explains 15 = .ok (.iconst 0, 1) := by decide +kernel
theorem dX8_explains_16 : decode cX8_explains 16 = .ok (.istore 6, 2) := by decide +kernel
theorem dX8_explains_18 : decode cX8_explains 18 = .ok (.iload 6, 2) := by decide +kernel
theorem dX8_explains_20 : decode cX8_explains 20 = .ok (.aload_n 0, 1) := by decide +kernel
theorem dX8_explains_21 : decode cX8_explains 21 = .ok (.getfield 145, 3) := by decide +kernel
theorem dX8_explains_24 : decode cX8_explains 24 = .ok (.if_icmp .ge 70, 3) := by decide +kernel
theorem dX8_explains_27 : decode cX8_explains 27 = .ok (.aload_n 0, 1) := by decide +kernel
theorem dX8_explains_28 : decode cX8_explains 28 = .ok (.getfield 16, 3) := by decide +kernel
theorem dX8_explains_31 : decode cX8_explains 31 = .ok (.aload_n 0, 1) := by decide +kernel
theorem dX8_explains_32 : decode cX8_explains 32 = .ok (.getfield 35, 3) := by decide +kernel
theorem dX8_explains_35 : decode cX8_explains 35 = .ok (.iload 6, 2) := by decide +kernel
theorem dX8_explains_37 : decode cX8_explains 37 = .ok (.iaload, 1) := by decide +kernel
theorem dX8_explains_38 : decode cX8_explains 38 = .ok (.lload_n 3, 1) := by decide +kernel
theorem dX8_explains_39 : decode cX8_explains 39 = .ok (.iload_n 2, 1) := by decide +kernel
theorem dX8_explains_40 : decode cX8_explains 40 = .ok (.invokestatic 77, 3) := by decide +kernel
theorem dX8_explains_43 : decode cX8_explains 43 = .ok (.aload_n 0, 1) := by decide +kernel
theorem dX8_explains_44 : decode cX8_explains 44 = .ok (.getfield 38, 3) := by decide +kernel
theorem dX8_explains_47 : decode cX8_explains 47 = .ok (.iload 6, 2) := by decide +kernel
theorem dX8_explains_49 : decode cX8_explains 49 = .ok (.iaload, 1) := by decide +kernel
theorem dX8_explains_50 : decode cX8_explains 50 = .ok (.invokestatic 51, 3) := by decide +kernel
theorem dX8_explains_53 : decode cX8_explains 53 = .ok (.istore 7, 2) := by decide +kernel
theorem dX8_explains_55 : decode cX8_explains 55 = .ok (.iload 5, 2) := by decide +kernel
theorem dX8_explains_57 : decode cX8_explains 57 = .ok (.ifCond .eq 28, 3) := by decide +kernel
theorem dX8_explains_60 : decode cX8_explains 60 = .ok (.iload 7, 2) := by decide +kernel
theorem dX8_explains_62 : decode cX8_explains 62 = .ok (.aload_n 0, 1) := by decide +kernel
theorem dX8_explains_63 : decode cX8_explains 63 = .ok (.getfield 41, 3) := by decide +kernel
theorem dX8_explains_66 : decode cX8_explains 66 = .ok (.iload 6, 2) := by decide +kernel
theorem dX8_explains_68 : decode cX8_explains 68 = .ok (.iaload, 1) := by decide +kernel
theorem dX8_explains_69 : decode cX8_explains 69 = .ok (.iconst 1, 1) := by decide +kernel
theorem dX8_explains_70 : decode cX8_explains 70 = .ok (.if_icmp .ne 7, 3) := by decide +kernel
theorem dX8_explains_73 : decode cX8_explains 73 = .ok (.iconst 1, 1) := by decide +kernel
theorem dX8_explains_74 : decode cX8_explains 74 = .ok (.goto 4, 3) := by decide +kernel
theorem dX8_explains_77 : decode cX8_explains 77 = .ok (.iconst 0, 1) := by decide +kernel
theorem dX8_explains_78 : decode cX8_explains 78 = .ok (.if_icmp .ne 7, 3) := by decide +kernel
theorem dX8_explains_81 : decode cX8_explains 81 = .ok (.iconst 1, 1) := by decide +kernel
theorem dX8_explains_82 : decode cX8_explains 82 = .ok (.goto 4, 3) := by decide +kernel
theorem dX8_explains_85 : decode cX8_explains 85 = .ok (.iconst 0, 1) := by decide +kernel
theorem dX8_explains_86 : decode cX8_explains 86 = .ok (.istore 5, 2) := by decide +kernel
theorem dX8_explains_88 : decode cX8_explains 88 = .ok (.iinc 6 1, 3) := by decide +kernel
theorem dX8_explains_91 : decode cX8_explains 91 = .ok (.goto (-73), 3) := by decide +kernel
theorem dX8_explains_94 : decode cX8_explains 94 = .ok (.iload 5, 2) := by decide +kernel
theorem dX8_explains_96 : decode cX8_explains 96 = .ok (.ireturn, 1) := by decide +kernel
set_option maxRecDepth 20000 in
theorem ggX8_ways_X8_in : GoodIn wsX8_ways wsX8_in := goodIn_r _ [7] (by decide +kernel) (by decide +kernel)
set_option maxRecDepth 20000 in
theorem gX8_ways_X8_in : GoodIn wsX8_ways (va_wsS RX8 59 yX8_in wsX8_in) := goodIn_app (goodIn_of _ (by decide +kernel)) ggX8_ways_X8_in
set_option maxRecDepth 20000 in
theorem ggX8_ways_X8_explains : GoodIn wsX8_ways wsX8_explains := goodIn_r _ [11, 12, 13, 14, 15, 16, 17, 18, 19, 6, 20, 21, 22, 23, 24, 25, 26, 27, 28, 29, 30, 31, 32, 33, 34, 35, 36, 37, 38, 39, 40, 41, 42, 43, 44, 45, 46, 47, 48, 49, 50, 51, 52, 53, 54, 55, 56] (by decide +kernel) (by decide +kernel)
set_option maxRecDepth 20000 in
theorem gX8_ways_X8_explains : GoodIn wsX8_ways (wsV RX8 243 RX8 yX8_explains wsX8_explains) := goodIn_app (goodIn_of _ (by decide +kernel)) ggX8_ways_X8_explains
theorem dX8_ways_0 : decode cX8_ways 0 = .ok (.aload_n 0, 1) := by decide +kernel
theorem dX8_ways_1 : decode cX8_ways 1 = .ok (.iconst 0, 1) := by decide +kernel
theorem dX8_ways_2 : decode cX8_ways 2 = .ok (.putfield 47, 3) := by decide +kernel
theorem dX8_ways_5 : decode cX8_ways 5 = .ok (.iload_n 1, 1) := by decide +kernel
theorem dX8_ways_6 : decode cX8_ways 6 = .ok (.i2l, 1) := by decide +kernel
theorem dX8_ways_7 : decode cX8_ways 7 = .ok (.lconst 0, 1) := by decide +kernel
theorem dX8_ways_8 : decode cX8_ways 8 = .ok (.lconst 1, 1) := by decide +kernel
theorem dX8_ways_9 : decode cX8_ways 9 = .ok (.invokestatic 59, 3) := by decide +kernel
theorem dX8_ways_12 : decode cX8_ways 12 = .ok (.ifCond .ne 6, 3) := by decide +kernel
theorem dX8_ways_15 : decode cX8_ways 15 = .ok (.bipush (-2), 2) := by decide +kernel
theorem dX8_ways_17 : decode cX8_ways 17 = .ok (.ireturn, 1) := by decide +kernel
theorem dX8_ways_18 : decode cX8_ways 18 = .ok (.aload_n 0, 1) := by decide +kernel
theorem dX8_ways_19 : decode cX8_ways 19 = .ok (.iconst 0, 1) := by decide +kernel
theorem dX8_ways_20 : decode cX8_ways 20 = .ok (.putfield 237, 3) := by decide +kernel
theorem dX8_ways_23 : decode cX8_ways 23 = .ok (.aload_n 0, 1) := by decide +kernel
theorem dX8_ways_24 : decode cX8_ways 24 = .ok (.bipush (-9), 2) := by decide +kernel
theorem dX8_ways_26 : decode cX8_ways 26 = .ok (.putfield 240, 3) := by decide +kernel
theorem dX8_ways_29 : decode cX8_ways 29 = .ok (.iconst 0, 1) := by decide +kernel
theorem dX8_ways_30 : decode cX8_ways 30 = .ok (.istore_n 2, 1) := by decide +kernel
theorem dX8_ways_31 : decode cX8_ways 31 = .ok (.iload_n 2, 1) := by decide +kernel
theorem dX8_ways_32 : decode cX8_ways 32 = .ok (.bipush 9, 2) := by decide +kernel
theorem dX8_ways_34 : decode cX8_ways 34 = .ok (.if_icmp .gt 79, 3) := by decide +kernel
theorem dX8_ways_37 : decode cX8_ways 37 = .ok (.iconst 4, 1) := by decide +kernel
theorem dX8_ways_38 : decode cX8_ways 38 = .ok (.istore_n 3, 1) := by decide +kernel
theorem dX8_ways_39 : decode cX8_ways 39 = .ok (.iload_n 3, 1) := by decide +kernel
theorem dX8_ways_40 : decode cX8_ways 40 = .ok (.bipush 9, 2) := by decide +kernel
theorem dX8_ways_42 : decode cX8_ways 42 = .ok (.if_icmp .ge 65, 3) := by decide +kernel
theorem dX8_ways_45 : decode cX8_ways 45 = .ok (.aload_n 0, 1) := by decide +kernel
theorem dX8_ways_46 : decode cX8_ways 46 = .ok (.iload_n 2, 1) := by decide +kernel
theorem dX8_ways_47 : decode cX8_ways 47 = .ok (.iload_n 3, 1) := by decide +kernel
theorem dX8_ways_48 : decode cX8_ways 48 = .ok (.invokevirtual 243, 3) := by decide +kernel
theorem dX8_ways_51 : decode cX8_ways 51 = .ok (.istore 4, 2) := by decide +kernel
theorem dX8_ways_53 : decode cX8_ways 53 = .ok (.aload_n 0, 1) := by decide +kernel
theorem dX8_ways_54 : decode cX8_ways 54 = .ok (.iload 4, 2) := by decide +kernel
theorem dX8_ways_56 : decode cX8_ways 56 = .ok (.ifCond .eq 19, 3) := by decide +kernel
theorem dX8_ways_59 : decode cX8_ways 59 = .ok (.aload_n 0, 1) := by decide +kernel
theorem dX8_ways_60 : decode cX8_ways 60 = .ok (.getfield 237, 3) := by decide +kernel
theorem dX8_ways_63 : decode cX8_ways 63 = .ok (.ifCond .ne 12, 3) := by decide +kernel
theorem dX8_ways_66 : decode cX8_ways 66 = .ok (.bipush 10, 2) := by decide +kernel
theorem dX8_ways_68 : decode cX8_ways 68 = .ok (.iload_n 2, 1) := by decide +kernel
theorem dX8_ways_69 : decode cX8_ways 69 = .ok (.imul, 1) := by decide +kernel
theorem dX8_ways_70 : decode cX8_ways 70 = .ok (.iload_n 3, 1) := by decide +kernel
theorem dX8_ways_71 : decode cX8_ways 71 = .ok (.iadd, 1) := by decide +kernel
theorem dX8_ways_72 : decode cX8_ways 72 = .ok (.goto 7, 3) := by decide +kernel
theorem dX8_ways_75 : decode cX8_ways 75 = .ok (.aload_n 0, 1) := by decide +kernel
theorem dX8_ways_76 : decode cX8_ways 76 = .ok (.getfield 240, 3) := by decide +kernel
theorem dX8_ways_79 : decode cX8_ways 79 = .ok (.putfield 240, 3) := by decide +kernel
theorem dX8_ways_82 : decode cX8_ways 82 = .ok (.aload_n 0, 1) := by decide +kernel
theorem dX8_ways_83 : decode cX8_ways 83 = .ok (.dup, 1) := by decide +kernel
theorem dX8_ways_84 : decode cX8_ways 84 = .ok (.getfield 237, 3) := by decide +kernel
theorem dX8_ways_87 : decode cX8_ways 87 = .ok (.iload 4, 2) := by decide +kernel
theorem dX8_ways_89 : decode cX8_ways 89 = .ok (.ifCond .eq 7, 3) := by decide +kernel
theorem dX8_ways_92 : decode cX8_ways 92 = .ok (.iconst 1, 1) := by decide +kernel
theorem dX8_ways_93 : decode cX8_ways 93 = .ok (.goto 4, 3) := by decide +kernel
theorem dX8_ways_96 : decode cX8_ways 96 = .ok (.iconst 0, 1) := by decide +kernel
theorem dX8_ways_97 : decode cX8_ways 97 = .ok (.iadd, 1) := by decide +kernel
theorem dX8_ways_98 : decode cX8_ways 98 = .ok (.putfield 237, 3) := by decide +kernel
theorem dX8_ways_101 : decode cX8_ways 101 = .ok (.iinc 3 4, 3) := by decide +kernel
theorem dX8_ways_104 : decode cX8_ways 104 = .ok (.goto (-65), 3) := by decide +kernel
theorem dX8_ways_107 : decode cX8_ways 107 = .ok (.iinc 2 1, 3) := by decide +kernel
theorem dX8_ways_110 : decode cX8_ways 110 = .ok (.goto (-79), 3) := by decide +kernel
theorem dX8_ways_113 : decode cX8_ways 113 = .ok (.iload_n 1, 1) := by decide +kernel
theorem dX8_ways_114 : decode cX8_ways 114 = .ok (.ifCond .ne 10, 3) := by decide +kernel
theorem dX8_ways_117 : decode cX8_ways 117 = .ok (.aload_n 0, 1) := by decide +kernel
theorem dX8_ways_118 : decode cX8_ways 118 = .ok (.getfield 237, 3) := by decide +kernel
theorem dX8_ways_121 : decode cX8_ways 121 = .ok (.goto 7, 3) := by decide +kernel
theorem dX8_ways_124 : decode cX8_ways 124 = .ok (.aload_n 0, 1) := by decide +kernel
theorem dX8_ways_125 : decode cX8_ways 125 = .ok (.getfield 240, 3) := by decide +kernel
theorem dX8_ways_128 : decode cX8_ways 128 = .ok (.ireturn, 1) := by decide +kernel
set_option maxRecDepth 20000 in
theorem ggX8_fades_X8_in : GoodIn wsX8_fades wsX8_in := goodIn_r _ [11] (by decide +kernel) (by decide +kernel)
set_option maxRecDepth 20000 in
theorem gX8_fades_X8_in : GoodIn wsX8_fades (va_wsS RX8 59 yX8_in wsX8_in) := goodIn_app (goodIn_of _ (by decide +kernel)) ggX8_fades_X8_in
set_option maxRecDepth 20000 in
theorem ggX8_fades_X8_begin : GoodIn wsX8_fades wsX8_begin := goodIn_r _ [15, 6, 2, 49, 50, 51, 52, 53, 54, 55, 56, 57, 58, 59, 60, 61, 62, 63, 64, 65, 66, 67, 68, 69] (by decide +kernel) (by decide +kernel)
set_option maxRecDepth 20000 in
theorem gX8_fades_X8_begin : GoodIn wsX8_fades (wsV RX8 224 RX8 yX8_begin wsX8_begin) := goodIn_app (goodIn_of _ (by decide +kernel)) ggX8_fades_X8_begin
set_option maxRecDepth 20000 in
theorem ggX8_fades_X8_has : GoodIn wsX8_fades wsX8_has := goodIn_r _ [18] (by decide +kernel) (by decide +kernel)
set_option maxRecDepth 20000 in
theorem gX8_fades_X8_has : GoodIn wsX8_fades (va_wsS RX8 51 yX8_has wsX8_has) := goodIn_app (goodIn_of _ (by decide +kernel)) ggX8_fades_X8_has
set_option maxRecDepth 20000 in
theorem ggX8_fades_X8_many : GoodIn wsX8_fades wsX8_many := goodIn_r _ [21, 16, 17, 10, 18] (by decide +kernel) (by decide +kernel)
set_option maxRecDepth 20000 in
theorem gX8_fades_X8_many : GoodIn wsX8_fades (va_wsS RX8 129 yX8_many wsX8_many) := goodIn_app (goodIn_of _ (by decide +kernel)) ggX8_fades_X8_many
set_option maxRecDepth 20000 in
theorem ggX8_fades_X8_partsOf : GoodIn wsX8_fades wsX8_partsOf := goodIn_r _ [24, 7, 25, 26, 10, 27, 28, 29, 30, 16, 17, 18, 31, 32, 33, 34, 35, 36, 37, 38, 39] (by decide +kernel) (by decide +kernel)
set_option maxRecDepth 20000 in
theorem gX8_fades_X8_partsOf : GoodIn wsX8_fades (va_wsS RX8 162 yX8_partsOf wsX8_partsOf) := goodIn_app (goodIn_of _ (by decide +kernel)) ggX8_fades_X8_partsOf
set_option maxRecDepth 20000 in
theorem ggX8_fades_X8_power : GoodIn wsX8_fades wsX8_power := goodIn_r _ [42] (by decide +kernel) (by decide +kernel)
set_option maxRecDepth 20000 in
theorem gX8_fades_X8_power : GoodIn wsX8_fades (va_wsS RX8 249 yX8_power wsX8_power) := goodIn_app (goodIn_of _ (by decide +kernel)) ggX8_fades_X8_power
set_option maxRecDepth 20000 in
theorem ggX8_fades_X8_fraction : GoodIn wsX8_fades wsX8_fraction := goodIn_r _ [45, 46, 47, 10, 48] (by decide +kernel) (by decide +kernel)
set_option maxRecDepth 20000 in
theorem gX8_fades_X8_fraction : GoodIn wsX8_fades (va_wsS RX8 201 yX8_fraction wsX8_fraction) := goodIn_app (goodIn_of _ (by decide +kernel)) ggX8_fades_X8_fraction
theorem dX8_fades_0 : decode cX8_fades 0 = .ok (.aload_n 0, 1) := by decide +kernel
theorem dX8_fades_1 : decode cX8_fades 1 = .ok (.iconst 0, 1) := by decide +kernel
theorem dX8_fades_2 : decode cX8_fades 2 = .ok (.putfield 47, 3) := by decide +kernel
theorem dX8_fades_5 : decode cX8_fades 5 = .ok (.aload_n 0, 1) := by decide +kernel
theorem dX8_fades_6 : decode cX8_fades 6 = .ok (.getfield 16, 3) := by decide +kernel
theorem dX8_fades_9 : decode cX8_fades 9 = .ok (.iconst 1, 1) := by decide +kernel
theorem dX8_fades_10 : decode cX8_fades 10 = .ok (.iaload, 1) := by decide +kernel
theorem dX8_fades_11 : decode cX8_fades 11 = .ok (.istore 6, 2) := by decide +kernel
theorem dX8_fades_13 : decode cX8_fades 13 = .ok (.iload_n 1, 1) := by decide +kernel
theorem dX8_fades_14 : decode cX8_fades 14 = .ok (.i2l, 1) := by decide +kernel
theorem dX8_fades_15 : decode cX8_fades 15 = .ok (.lconst 0, 1) := by decide +kernel
theorem dX8_fades_16 : decode cX8_fades 16 = .ok (.aload_n 0, 1) := by decide +kernel
theorem dX8_fades_17 : decode cX8_fades 17 = .ok (.getfield 16, 3) := by decide +kernel
theorem dX8_fades_20 : decode cX8_fades 20 = .ok (.iconst 2, 1) := by decide +kernel
theorem dX8_fades_21 : decode cX8_fades 21 = .ok (.iaload, 1) := by decide +kernel
theorem dX8_fades_22 : decode cX8_fades 22 = .ok (.iconst 1, 1) := by decide +kernel
theorem dX8_fades_23 : decode cX8_fades 23 = .ok (.isub, 1) := by decide +kernel
theorem dX8_fades_24 : decode cX8_fades 24 = .ok (.i2l, 1) := by decide +kernel
theorem dX8_fades_25 : decode cX8_fades 25 = .ok (.invokestatic 59, 3) := by decide +kernel
theorem dX8_fades_28 : decode cX8_fades 28 = .ok (.ifCond .ne 5, 3) := by decide +kernel
theorem dX8_fades_31 : decode cX8_fades 31 = .ok (.iconst (-1), 1) := by decide +kernel
theorem dX8_fades_32 : decode cX8_fades 32 = .ok (.ireturn, 1) := by decide +kernel
theorem dX8_fades_33 : decode cX8_fades 33 = .ok (.iload_n 2, 1) := by decide +kernel
theorem dX8_fades_34 : decode cX8_fades 34 = .ok (.i2l, 1) := by decide +kernel
theorem dX8_fades_35 : decode cX8_fades 35 = .ok (.lconst 1, 1) := by decide +kernel
theorem dX8_fades_36 : decode cX8_fades 36 = .ok (.ldc2_w 117, 3) := by decide +kernel
theorem dX8_fades_39 : decode cX8_fades 39 = .ok (.invokestatic 59, 3) := by decide +kernel
theorem dX8_fades_42 : decode cX8_fades 42 = .ok (.ifCond .eq 28, 3) := by decide +kernel
theorem dX8_fades_45 : decode cX8_fades 45 = .ok (.iload_n 3, 1) := by decide +kernel
theorem dX8_fades_46 : decode cX8_fades 46 = .ok (.i2l, 1) := by decide +kernel
theorem dX8_fades_47 : decode cX8_fades 47 = .ok (.lconst 0, 1) := by decide +kernel
theorem dX8_fades_48 : decode cX8_fades 48 = .ok (.ldc2_w 181, 3) := by decide +kernel
theorem dX8_fades_51 : decode cX8_fades 51 = .ok (.invokestatic 59, 3) := by decide +kernel
theorem dX8_fades_54 : decode cX8_fades 54 = .ok (.ifCond .eq 16, 3) := by decide +kernel
theorem dX8_fades_57 : decode cX8_fades 57 = .ok (.iload 4, 2) := by decide +kernel
theorem dX8_fades_59 : decode cX8_fades 59 = .ok (.i2l, 1) := by decide +kernel
theorem dX8_fades_60 : decode cX8_fades 60 = .ok (.lconst 0, 1) := by decide +kernel
theorem dX8_fades_61 : decode cX8_fades 61 = .ok (.ldc2_w 247, 3) := by decide +kernel
theorem dX8_fades_64 : decode cX8_fades 64 = .ok (.invokestatic 59, 3) := by decide +kernel
theorem dX8_fades_67 : decode cX8_fades 67 = .ok (.ifCond .ne 6, 3) := by decide +kernel
theorem dX8_fades_70 : decode cX8_fades 70 = .ok (.bipush (-2), 2) := by decide +kernel
theorem dX8_fades_72 : decode cX8_fades 72 = .ok (.ireturn, 1) := by decide +kernel
theorem dX8_fades_73 : decode cX8_fades 73 = .ok (.iconst 0, 1) := by decide +kernel
theorem dX8_fades_74 : decode cX8_fades 74 = .ok (.istore 7, 2) := by decide +kernel
theorem dX8_fades_76 : decode cX8_fades 76 = .ok (.iconst 0, 1) := by decide +kernel
theorem dX8_fades_77 : decode cX8_fades 77 = .ok (.istore 8, 2) := by decide +kernel
theorem dX8_fades_79 : decode cX8_fades 79 = .ok (.iload 8, 2) := by decide +kernel
theorem dX8_fades_81 : decode cX8_fades 81 = .ok (.iconst 1, 1) := by decide +kernel
theorem dX8_fades_82 : decode cX8_fades 82 = .ok (.iload 6, 2) := by decide +kernel
theorem dX8_fades_84 : decode cX8_fades 84 = .ok (.ishl, 1) := by decide +kernel
theorem dX8_fades_85 : decode cX8_fades 85 = .ok (.if_icmp .ge 122, 3) := by decide +kernel
theorem dX8_fades_88 : decode cX8_fades 88 = .ok (.aload_n 0, 1) := by decide +kernel
theorem dX8_fades_89 : decode cX8_fades 89 = .ok (.invokevirtual 224, 3) := by decide +kernel
theorem dX8_fades_92 : decode cX8_fades 92 = .ok (.iconst 0, 1) := by decide +kernel
theorem dX8_fades_93 : decode cX8_fades 93 = .ok (.istore 9, 2) := by decide +kernel
theorem dX8_fades_95 : decode cX8_fades 95 = .ok (.iload 9, 2) := by decide +kernel
theorem dX8_fades_97 : decode cX8_fades 97 = .ok (.iload 6, 2) := by decide +kernel
theorem dX8_fades_99 : decode cX8_fades 99 = .ok (.if_icmp .ge 49, 3) := by decide +kernel
theorem dX8_fades_102 : decode cX8_fades 102 = .ok (.iconst 3, 1) := by decide +kernel
theorem dX8_fades_103 : decode cX8_fades 103 = .ok (.iload 6, 2) := by decide +kernel
theorem dX8_fades_105 : decode cX8_fades 105 = .ok (.iload_n 1, 1) := by decide +kernel
theorem dX8_fades_106 : decode cX8_fades 106 = .ok (.imul, 1) := by decide +kernel
theorem dX8_fades_107 : decode cX8_fades 107 = .ok (.iadd, 1) := by decide +kernel
theorem dX8_fades_108 : decode cX8_fades 108 = .ok (.iload 9, 2) := by decide +kernel
theorem dX8_fades_110 : decode cX8_fades 110 = .ok (.iadd, 1) := by decide +kernel
theorem dX8_fades_111 : decode cX8_fades 111 = .ok (.istore 10, 2) := by decide +kernel
theorem dX8_fades_113 : decode cX8_fades 113 = .ok (.aload_n 0, 1) := by decide +kernel
theorem dX8_fades_114 : decode cX8_fades 114 = .ok (.getfield 19, 3) := by decide +kernel
theorem dX8_fades_117 : decode cX8_fades 117 = .ok (.iload 10, 2) := by decide +kernel
theorem dX8_fades_119 : decode cX8_fades 119 = .ok (.iload 8, 2) := by decide +kernel
theorem dX8_fades_121 : decode cX8_fades 121 = .ok (.i2l, 1) := by decide +kernel
theorem dX8_fades_122 : decode cX8_fades 122 = .ok (.iload 9, 2) := by decide +kernel
theorem dX8_fades_124 : decode cX8_fades 124 = .ok (.invokestatic 51, 3) := by decide +kernel
theorem dX8_fades_127 : decode cX8_fades 127 = .ok (.ifCond .eq 7, 3) := by decide +kernel
theorem dX8_fades_130 : decode cX8_fades 130 = .ok (.iconst 0, 1) := by decide +kernel
theorem dX8_fades_131 : decode cX8_fades 131 = .ok (.goto 10, 3) := by decide +kernel
theorem dX8_fades_134 : decode cX8_fades 134 = .ok (.aload_n 0, 1) := by decide +kernel
theorem dX8_fades_135 : decode cX8_fades 135 = .ok (.getfield 19, 3) := by decide +kernel
theorem dX8_fades_138 : decode cX8_fades 138 = .ok (.iload 10, 2) := by decide +kernel
theorem dX8_fades_140 : decode cX8_fades 140 = .ok (.iaload, 1) := by decide +kernel
theorem dX8_fades_141 : decode cX8_fades 141 = .ok (.iastore, 1) := by decide +kernel
theorem dX8_fades_142 : decode cX8_fades 142 = .ok (.iinc 9 1, 3) := by decide +kernel
theorem dX8_fades_145 : decode cX8_fades 145 = .ok (.goto (-50), 3) := by decide +kernel
theorem dX8_fades_148 : decode cX8_fades 148 = .ok (.iload 8, 2) := by decide +kernel
theorem dX8_fades_150 : decode cX8_fades 150 = .ok (.i2l, 1) := by decide +kernel
theorem dX8_fades_151 : decode cX8_fades 151 = .ok (.invokestatic 129, 3) := by decide +kernel
theorem dX8_fades_154 : decode cX8_fades 154 = .ok (.istore 9, 2) := by decide +kernel
theorem dX8_fades_156 : decode cX8_fades 156 = .ok (.iload 7, 2) := by decide +kernel
theorem dX8_fades_158 : decode cX8_fades 158 = .ok (.aload_n 0, 1) := by decide +kernel
theorem dX8_fades_159 : decode cX8_fades 159 = .ok (.getfield 19, 3) := by decide +kernel
theorem dX8_fades_162 : decode cX8_fades 162 = .ok (.iload_n 2, 1) := by decide +kernel
theorem dX8_fades_163 : decode cX8_fades 163 = .ok (.ldc2_w 67, 3) := by decide +kernel
theorem dX8_fades_166 : decode cX8_fades 166 = .ok (.invokestatic 162, 3) := by decide +kernel
theorem dX8_fades_169 : decode cX8_fades 169 = .ok (.iload_n 3, 1) := by decide +kernel
theorem dX8_fades_170 : decode cX8_fades 170 = .ok (.if_icmp .lt 27, 3) := by decide +kernel
theorem dX8_fades_173 : decode cX8_fades 173 = .ok (.iload 4, 2) := by decide +kernel
theorem dX8_fades_175 : decode cX8_fades 175 = .ok (.iload 9, 2) := by decide +kernel
theorem dX8_fades_177 : decode cX8_fades 177 = .ok (.invokestatic 249, 3) := by decide +kernel
theorem dX8_fades_180 : decode cX8_fades 180 = .ok (.bipush 10, 2) := by decide +kernel
theorem dX8_fades_182 : decode cX8_fades 182 = .ok (.iload 4, 2) := by decide +kernel
theorem dX8_fades_184 : decode cX8_fades 184 = .ok (.isub, 1) := by decide +kernel
theorem dX8_fades_185 : decode cX8_fades 185 = .ok (.iload 6, 2) := by decide +kernel
theorem dX8_fades_187 : decode cX8_fades 187 = .ok (.iload 9, 2) := by decide +kernel
theorem dX8_fades_189 : decode cX8_fades 189 = .ok (.isub, 1) := by decide +kernel
theorem dX8_fades_190 : decode cX8_fades 190 = .ok (.invokestatic 249, 3) := by decide +kernel
theorem dX8_fades_193 : decode cX8_fades 193 = .ok (.imul, 1) := by decide +kernel
theorem dX8_fades_194 : decode cX8_fades 194 = .ok (.goto 4, 3) := by decide +kernel
theorem dX8_fades_197 : decode cX8_fades 197 = .ok (.iconst 0, 1) := by decide +kernel
theorem dX8_fades_198 : decode cX8_fades 198 = .ok (.iadd, 1) := by decide +kernel
theorem dX8_fades_199 : decode cX8_fades 199 = .ok (.istore 7, 2) := by decide +kernel
theorem dX8_fades_201 : decode cX8_fades 201 = .ok (.iinc 8 1, 3) := by decide +kernel
theorem dX8_fades_204 : decode cX8_fades 204 = .ok (.goto (-125), 3) := by decide +kernel
theorem dX8_fades_207 : decode cX8_fades 207 = .ok (.iload 7, 2) := by decide +kernel
theorem dX8_fades_209 : decode cX8_fades 209 = .ok (.bipush 10, 2) := by decide +kernel
theorem dX8_fades_211 : decode cX8_fades 211 = .ok (.iload 6, 2) := by decide +kernel
theorem dX8_fades_213 : decode cX8_fades 213 = .ok (.invokestatic 249, 3) := by decide +kernel
theorem dX8_fades_216 : decode cX8_fades 216 = .ok (.iload 5, 2) := by decide +kernel
theorem dX8_fades_218 : decode cX8_fades 218 = .ok (.invokestatic 201, 3) := by decide +kernel
theorem dX8_fades_221 : decode cX8_fades 221 = .ok (.ireturn, 1) := by decide +kernel
theorem dX8_seed_0 : decode cX8_seed 0 = .ok (.aload_n 0, 1) := by decide +kernel
theorem dX8_seed_1 : decode cX8_seed 1 = .ok (.iconst 0, 1) := by decide +kernel
theorem dX8_seed_2 : decode cX8_seed 2 = .ok (.putfield 47, 3) := by decide +kernel
theorem dX8_seed_5 : decode cX8_seed 5 = .ok (.aload_n 0, 1) := by decide +kernel
theorem dX8_seed_6 : decode cX8_seed 6 = .ok (.getfield 252, 3) := by decide +kernel
theorem dX8_seed_9 : decode cX8_seed 9 = .ok (.lstore_n 3, 1) := by decide +kernel
theorem dX8_seed_10 : decode cX8_seed 10 = .ok (.aload_n 0, 1) := by decide +kernel
theorem dX8_seed_11 : decode cX8_seed 11 = .ok (.lload_n 1, 1) := by decide +kernel
theorem dX8_seed_12 : decode cX8_seed 12 = .ok (.putfield 252, 3) := by decide +kernel
theorem dX8_seed_15 : decode cX8_seed 15 = .ok (.lload_n 3, 1) := by decide +kernel
theorem dX8_seed_16 : decode cX8_seed 16 = .ok (.lreturn, 1) := by decide +kernel
set_option maxRecDepth 20000 in
theorem ggX8_goDraw_X8_goNegative : GoodIn wsX8_goDraw wsX8_goNegative := goodIn_r _ [5, 6, 7, 4, 8] (by decide +kernel) (by decide +kernel)
set_option maxRecDepth 20000 in
theorem gX8_goDraw_X8_goNegative : GoodIn wsX8_goDraw (va_wsS RX8 169 yX8_goNegative wsX8_goNegative) := goodIn_app (goodIn_of _ (by decide +kernel)) ggX8_goDraw_X8_goNegative
set_option maxRecDepth 20000 in
theorem ggX8_goDraw_X8_goSift : GoodIn wsX8_goDraw wsX8_goSift := goodIn_r _ [12, 13, 6, 7, 4, 8, 14, 15, 16, 17, 18, 19, 20, 21, 22, 23, 24, 25, 26, 27, 28, 29, 30, 31, 32, 33, 34, 35, 36, 37, 38, 39, 40, 41, 42, 43, 44, 45, 46, 47, 48, 49, 50, 51, 52, 53, 54, 55, 56, 57, 58, 59, 60, 61, 62, 63, 64, 65, 66, 67, 68] (by decide +kernel) (by decide +kernel)
set_option maxRecDepth 20000 in
theorem gX8_goDraw_X8_goSift : GoodIn wsX8_goDraw (wsV RX8 183 RX8 yX8_goSift wsX8_goSift) := goodIn_app (goodIn_of _ (by decide +kernel)) ggX8_goDraw_X8_goSift
theorem dX8_goDraw_0 : decode cX8_goDraw 0 = .ok (.iload_n 2, 1) := by decide +kernel
theorem dX8_goDraw_1 : decode cX8_goDraw 1 = .ok (.bipush 10, 2) := by decide +kernel
theorem dX8_goDraw_3 : decode cX8_goDraw 3 = .ok (.if_icmp .ge 15, 3) := by decide +kernel
theorem dX8_goDraw_6 : decode cX8_goDraw 6 = .ok (.aload_n 0, 1) := by decide +kernel
theorem dX8_goDraw_7 : decode cX8_goDraw 7 = .ok (.getfield 19, 3) := by decide +kernel
theorem dX8_goDraw_10 : decode cX8_goDraw 10 = .ok (.iconst 3, 1) := by decide +kernel
theorem dX8_goDraw_11 : decode cX8_goDraw 11 = .ok (.iload_n 1, 1) := by decide +kernel
theorem dX8_goDraw_12 : decode cX8_goDraw 12 = .ok (.iadd, 1) := by decide +kernel
theorem dX8_goDraw_13 : decode cX8_goDraw 13 = .ok (.iload_n 2, 1) := by decide +kernel
theorem dX8_goDraw_14 : decode cX8_goDraw 14 = .ok (.iastore, 1) := by decide +kernel
theorem dX8_goDraw_15 : decode cX8_goDraw 15 = .ok (.goto 30, 3) := by decide +kernel
theorem dX8_goDraw_18 : decode cX8_goDraw 18 = .ok (.iload_n 2, 1) := by decide +kernel
theorem dX8_goDraw_19 : decode cX8_goDraw 19 = .ok (.bipush 10, 2) := by decide +kernel
theorem dX8_goDraw_21 : decode cX8_goDraw 21 = .ok (.if_icmp .ne 13, 3) := by decide +kernel
theorem dX8_goDraw_24 : decode cX8_goDraw 24 = .ok (.aload_n 0, 1) := by decide +kernel
theorem dX8_goDraw_25 : decode cX8_goDraw 25 = .ok (.getfield 19, 3) := by decide +kernel
theorem dX8_goDraw_28 : decode cX8_goDraw 28 = .ok (.invokestatic 169, 3) := by decide +kernel
theorem dX8_goDraw_31 : decode cX8_goDraw 31 = .ok (.goto 14, 3) := by decide +kernel
theorem dX8_goDraw_34 : decode cX8_goDraw 34 = .ok (.aload_n 0, 1) := by decide +kernel
theorem dX8_goDraw_35 : decode cX8_goDraw 35 = .ok (.aload_n 0, 1) := by decide +kernel
theorem dX8_goDraw_36 : decode cX8_goDraw 36 = .ok (.getfield 19, 3) := by decide +kernel
theorem dX8_goDraw_39 : decode cX8_goDraw 39 = .ok (.iconst 0, 1) := by decide +kernel
theorem dX8_goDraw_40 : decode cX8_goDraw 40 = .ok (.iconst 2, 1) := by decide +kernel
theorem dX8_goDraw_41 : decode cX8_goDraw 41 = .ok (.invokevirtual 183, 3) := by decide +kernel
theorem dX8_goDraw_44 : decode cX8_goDraw 44 = .ok (.pop, 1) := by decide +kernel
theorem dX8_goDraw_45 : decode cX8_goDraw 45 = .ok (.return_, 1) := by decide +kernel
set_option maxRecDepth 20000 in
theorem ggX8_drawn_X8_in : GoodIn wsX8_drawn wsX8_in := goodIn_r _ [10] (by decide +kernel) (by decide +kernel)
set_option maxRecDepth 20000 in
theorem gX8_drawn_X8_in : GoodIn wsX8_drawn (va_wsS RX8 59 yX8_in wsX8_in) := goodIn_app (goodIn_of _ (by decide +kernel)) ggX8_drawn_X8_in
set_option maxRecDepth 20000 in
theorem ggX8_drawn_X8_begin : GoodIn wsX8_drawn wsX8_begin := goodIn_r _ [14, 6, 15, 77, 78, 79, 80, 81, 82, 83, 84, 85, 86, 87, 88, 89, 90, 91, 92, 93, 94, 95, 96, 97] (by decide +kernel) (by decide +kernel)
set_option maxRecDepth 20000 in
theorem gX8_drawn_X8_begin : GoodIn wsX8_drawn (wsV RX8 224 RX8 yX8_begin wsX8_begin) := goodIn_app (goodIn_of _ (by decide +kernel)) ggX8_drawn_X8_begin
set_option maxRecDepth 20000 in
theorem ggX8_drawn_X8_dotsOf : GoodIn wsX8_drawn wsX8_dotsOf := goodIn_r _ [18] (by decide +kernel) (by decide +kernel)
set_option maxRecDepth 20000 in
theorem gX8_drawn_X8_dotsOf : GoodIn wsX8_drawn (va_wsS RX8 55 yX8_dotsOf wsX8_dotsOf) := goodIn_app (goodIn_of _ (by decide +kernel)) ggX8_drawn_X8_dotsOf
set_option maxRecDepth 20000 in
theorem ggX8_drawn_X8_goDraw : GoodIn wsX8_drawn wsX8_goDraw := goodIn_r _ [22, 6, 23, 24, 9, 25, 16, 17, 18, 26, 27, 28, 29, 30, 31, 32, 33, 34, 35, 36, 37, 38, 39, 40, 41, 42, 43, 44, 45, 46, 47, 48, 49, 50, 51, 52, 53, 54, 55, 56, 57, 58, 59, 60, 61, 62, 63, 64, 77, 78, 79, 80, 81, 82, 83, 84, 85, 86, 87, 88, 89, 90, 91, 92, 93, 94, 95, 96, 97] (by decide +kernel) (by decide +kernel)
set_option maxRecDepth 20000 in
theorem gX8_drawn_X8_goDraw : GoodIn wsX8_drawn (wsV RX8 262 RX8 yX8_goDraw wsX8_goDraw) := goodIn_app (goodIn_of _ (by decide +kernel)) ggX8_drawn_X8_goDraw
set_option maxRecDepth 20000 in
theorem ggX8_drawn_X8_nodes : GoodIn wsX8_drawn wsX8_nodes := goodIn_r _ [67, 16, 17, 9, 18, 68, 69, 70, 71, 72, 73, 35, 36, 37, 34, 38, 39, 40, 41, 42, 43, 44, 45, 46, 47, 48, 49, 50, 51, 52, 74, 75, 76, 62, 63, 64] (by decide +kernel) (by decide +kernel)
set_option maxRecDepth 20000 in
theorem gX8_drawn_X8_nodes : GoodIn wsX8_drawn (va_wsS RX8 126 yX8_nodes wsX8_nodes) := goodIn_app (goodIn_of _ (by decide +kernel)) ggX8_drawn_X8_nodes
theorem dX8_drawn_0 : decode cX8_drawn 0 = .ok (.aload_n 0, 1) := by decide +kernel
theorem dX8_drawn_1 : decode cX8_drawn 1 = .ok (.iconst 0, 1) := by decide +kernel
theorem dX8_drawn_2 : decode cX8_drawn 2 = .ok (.putfield 47, 3) := by decide +kernel
theorem dX8_drawn_5 : decode cX8_drawn 5 = .ok (.iload_n 1, 1) := by decide +kernel
theorem dX8_drawn_6 : decode cX8_drawn 6 = .ok (.i2l, 1) := by decide +kernel
theorem dX8_drawn_7 : decode cX8_drawn 7 = .ok (.lconst 1, 1) := by decide +kernel
theorem dX8_drawn_8 : decode cX8_drawn 8 = .ok (.ldc2_w 256, 3) := by decide +kernel
theorem dX8_drawn_11 : decode cX8_drawn 11 = .ok (.invokestatic 59, 3) := by decide +kernel
theorem dX8_drawn_14 : decode cX8_drawn 14 = .ok (.ifCond .ne 6, 3) := by decide +kernel
theorem dX8_drawn_17 : decode cX8_drawn 17 = .ok (.bipush (-2), 2) := by decide +kernel
theorem dX8_drawn_19 : decode cX8_drawn 19 = .ok (.ireturn, 1) := by decide +kernel
theorem dX8_drawn_20 : decode cX8_drawn 20 = .ok (.aload_n 0, 1) := by decide +kernel
theorem dX8_drawn_21 : decode cX8_drawn 21 = .ok (.invokevirtual 224, 3) := by decide +kernel
theorem dX8_drawn_24 : decode cX8_drawn 24 = .ok (.iconst 0, 1) := by decide +kernel
theorem dX8_drawn_25 : decode cX8_drawn 25 = .ok (.istore_n 2, 1) := by decide +kernel
theorem dX8_drawn_26 : decode cX8_drawn 26 = .ok (.iconst 0, 1) := by decide +kernel
theorem dX8_drawn_27 : decode cX8_drawn 27 = .ok (.istore_n 3, 1) := by decide +kernel
theorem dX8_drawn_28 : decode cX8_drawn 28 = .ok (.iload_n 3, 1) := by decide +kernel
theorem dX8_drawn_29 : decode cX8_drawn 29 = .ok (.iload_n 1, 1) := by decide +kernel
theorem dX8_drawn_30 : decode cX8_drawn 30 = .ok (.if_icmp .ge 67, 3) := by decide +kernel
theorem dX8_drawn_33 : decode cX8_drawn 33 = .ok (.aload_n 0, 1) := by decide +kernel
theorem dX8_drawn_34 : decode cX8_drawn 34 = .ok (.aload_n 0, 1) := by decide +kernel
theorem dX8_drawn_35 : decode cX8_drawn 35 = .ok (.getfield 252, 3) := by decide +kernel
theorem dX8_drawn_38 : decode cX8_drawn 38 = .ok (.ldc2_w 258, 3) := by decide +kernel
theorem dX8_drawn_41 : decode cX8_drawn 41 = .ok (.lmul, 1) := by decide +kernel
theorem dX8_drawn_42 : decode cX8_drawn 42 = .ok (.ldc2_w 260, 3) := by decide +kernel
theorem dX8_drawn_45 : decode cX8_drawn 45 = .ok (.ladd, 1) := by decide +kernel
theorem dX8_drawn_46 : decode cX8_drawn 46 = .ok (.putfield 252, 3) := by decide +kernel
theorem dX8_drawn_49 : decode cX8_drawn 49 = .ok (.aload_n 0, 1) := by decide +kernel
theorem dX8_drawn_50 : decode cX8_drawn 50 = .ok (.getfield 252, 3) := by decide +kernel
theorem dX8_drawn_53 : decode cX8_drawn 53 = .ok (.bipush 33, 2) := by decide +kernel
theorem dX8_drawn_55 : decode cX8_drawn 55 = .ok (.lushr, 1) := by decide +kernel
theorem dX8_drawn_56 : decode cX8_drawn 56 = .ok (.l2i, 1) := by decide +kernel
theorem dX8_drawn_57 : decode cX8_drawn 57 = .ok (.istore 4, 2) := by decide +kernel
theorem dX8_drawn_59 : decode cX8_drawn 59 = .ok (.aload_n 0, 1) := by decide +kernel
theorem dX8_drawn_60 : decode cX8_drawn 60 = .ok (.iload 4, 2) := by decide +kernel
theorem dX8_drawn_62 : decode cX8_drawn 62 = .ok (.aload_n 0, 1) := by decide +kernel
theorem dX8_drawn_63 : decode cX8_drawn 63 = .ok (.getfield 19, 3) := by decide +kernel
theorem dX8_drawn_66 : decode cX8_drawn 66 = .ok (.invokestatic 55, 3) := by decide +kernel
theorem dX8_drawn_69 : decode cX8_drawn 69 = .ok (.irem, 1) := by decide +kernel
theorem dX8_drawn_70 : decode cX8_drawn 70 = .ok (.iload 4, 2) := by decide +kernel
theorem dX8_drawn_72 : decode cX8_drawn 72 = .ok (.bipush 64, 2) := by decide +kernel
theorem dX8_drawn_74 : decode cX8_drawn 74 = .ok (.idiv, 1) := by decide +kernel
theorem dX8_drawn_75 : decode cX8_drawn 75 = .ok (.bipush 12, 2) := by decide +kernel
theorem dX8_drawn_77 : decode cX8_drawn 77 = .ok (.irem, 1) := by decide +kernel
theorem dX8_drawn_78 : decode cX8_drawn 78 = .ok (.invokevirtual 262, 3) := by decide +kernel
theorem dX8_drawn_81 : decode cX8_drawn 81 = .ok (.iload_n 2, 1) := by decide +kernel
theorem dX8_drawn_82 : decode cX8_drawn 82 = .ok (.aload_n 0, 1) := by decide +kernel
theorem dX8_drawn_83 : decode cX8_drawn 83 = .ok (.getfield 19, 3) := by decide +kernel
theorem dX8_drawn_86 : decode cX8_drawn 86 = .ok (.invokestatic 126, 3) := by decide +kernel
theorem dX8_drawn_89 : decode cX8_drawn 89 = .ok (.iadd, 1) := by decide +kernel
theorem dX8_drawn_90 : decode cX8_drawn 90 = .ok (.istore_n 2, 1) := by decide +kernel
theorem dX8_drawn_91 : decode cX8_drawn 91 = .ok (.iinc 3 1, 3) := by decide +kernel
theorem dX8_drawn_94 : decode cX8_drawn 94 = .ok (.goto (-66), 3) := by decide +kernel
theorem dX8_drawn_97 : decode cX8_drawn 97 = .ok (.iload_n 2, 1) := by decide +kernel
theorem dX8_drawn_98 : decode cX8_drawn 98 = .ok (.ireturn, 1) := by decide +kernel
set_option maxRecDepth 20000 in
theorem ggX8_keep_X8_in : GoodIn wsX8_keep wsX8_in := goodIn_r _ [8] (by decide +kernel) (by decide +kernel)
set_option maxRecDepth 20000 in
theorem gX8_keep_X8_in : GoodIn wsX8_keep (va_wsS RX8 59 yX8_in wsX8_in) := goodIn_app (goodIn_of _ (by decide +kernel)) ggX8_keep_X8_in
set_option maxRecDepth 20000 in
theorem ggX8_keep_X8_nodes : GoodIn wsX8_keep wsX8_nodes := goodIn_r _ [11, 12, 13, 7, 14, 15, 16, 17, 18, 19, 20, 21, 22, 23, 24, 25, 26, 27, 28, 29, 30, 31, 32, 33, 34, 35, 36, 37, 38, 39, 40, 41, 42, 43, 44, 45] (by decide +kernel) (by decide +kernel)
set_option maxRecDepth 20000 in
theorem gX8_keep_X8_nodes : GoodIn wsX8_keep (va_wsS RX8 126 yX8_nodes wsX8_nodes) := goodIn_app (goodIn_of _ (by decide +kernel)) ggX8_keep_X8_nodes
theorem dX8_keep_0 : decode cX8_keep 0 = .ok (.aload_n 0, 1) := by decide +kernel
theorem dX8_keep_1 : decode cX8_keep 1 = .ok (.iconst 0, 1) := by decide +kernel
theorem dX8_keep_2 : decode cX8_keep 2 = .ok (.putfield 47, 3) := by decide +kernel
theorem dX8_keep_5 : decode cX8_keep 5 = .ok (.iload_n 1, 1) := by decide +kernel
theorem dX8_keep_6 : decode cX8_keep 6 = .ok (.i2l, 1) := by decide +kernel
theorem dX8_keep_7 : decode cX8_keep 7 = .ok (.lconst 0, 1) := by decide +kernel
theorem dX8_keep_8 : decode cX8_keep 8 = .ok (.lconst 1, 1) := by decide +kernel
theorem dX8_keep_9 : decode cX8_keep 9 = .ok (.invokestatic 59, 3) := by decide +kernel
theorem dX8_keep_12 : decode cX8_keep 12 = .ok (.ifCond .ne 5, 3) := by decide +kernel
theorem dX8_keep_15 : decode cX8_keep 15 = .ok (.iconst (-1), 1) := by decide +kernel
theorem dX8_keep_16 : decode cX8_keep 16 = .ok (.ireturn, 1) := by decide +kernel
theorem dX8_keep_17 : decode cX8_keep 17 = .ok (.aload_n 0, 1) := by decide +kernel
theorem dX8_keep_18 : decode cX8_keep 18 = .ok (.getfield 31, 3) := by decide +kernel
theorem dX8_keep_21 : decode cX8_keep 21 = .ok (.iload_n 1, 1) := by decide +kernel
theorem dX8_keep_22 : decode cX8_keep 22 = .ok (.iconst 1, 1) := by decide +kernel
theorem dX8_keep_23 : decode cX8_keep 23 = .ok (.bastore, 1) := by decide +kernel
theorem dX8_keep_24 : decode cX8_keep 24 = .ok (.iconst 0, 1) := by decide +kernel
theorem dX8_keep_25 : decode cX8_keep 25 = .ok (.istore_n 2, 1) := by decide +kernel
theorem dX8_keep_26 : decode cX8_keep 26 = .ok (.iload_n 2, 1) := by decide +kernel
theorem dX8_keep_27 : decode cX8_keep 27 = .ok (.bipush 39, 2) := by decide +kernel
theorem dX8_keep_29 : decode cX8_keep 29 = .ok (.if_icmp .ge 26, 3) := by decide +kernel
theorem dX8_keep_32 : decode cX8_keep 32 = .ok (.aload_n 0, 1) := by decide +kernel
theorem dX8_keep_33 : decode cX8_keep 33 = .ok (.getfield 28, 3) := by decide +kernel
theorem dX8_keep_36 : decode cX8_keep 36 = .ok (.bipush 39, 2) := by decide +kernel
theorem dX8_keep_38 : decode cX8_keep 38 = .ok (.iload_n 1, 1) := by decide +kernel
theorem dX8_keep_39 : decode cX8_keep 39 = .ok (.imul, 1) := by decide +kernel
theorem dX8_keep_40 : decode cX8_keep 40 = .ok (.iload_n 2, 1) := by decide +kernel
theorem dX8_keep_41 : decode cX8_keep 41 = .ok (.iadd, 1) := by decide +kernel
theorem dX8_keep_42 : decode cX8_keep 42 = .ok (.aload_n 0, 1) := by decide +kernel
theorem dX8_keep_43 : decode cX8_keep 43 = .ok (.getfield 16, 3) := by decide +kernel
theorem dX8_keep_46 : decode cX8_keep 46 = .ok (.iload_n 2, 1) := by decide +kernel
theorem dX8_keep_47 : decode cX8_keep 47 = .ok (.iaload, 1) := by decide +kernel
theorem dX8_keep_48 : decode cX8_keep 48 = .ok (.iastore, 1) := by decide +kernel
theorem dX8_keep_49 : decode cX8_keep 49 = .ok (.iinc 2 1, 3) := by decide +kernel
theorem dX8_keep_52 : decode cX8_keep 52 = .ok (.goto (-26), 3) := by decide +kernel
theorem dX8_keep_55 : decode cX8_keep 55 = .ok (.aload_n 0, 1) := by decide +kernel
theorem dX8_keep_56 : decode cX8_keep 56 = .ok (.getfield 16, 3) := by decide +kernel
theorem dX8_keep_59 : decode cX8_keep 59 = .ok (.invokestatic 126, 3) := by decide +kernel
theorem dX8_keep_62 : decode cX8_keep 62 = .ok (.ireturn, 1) := by decide +kernel
set_option maxRecDepth 20000 in
theorem ggX8_again_X8_in : GoodIn wsX8_again wsX8_in := goodIn_r _ [9] (by decide +kernel) (by decide +kernel)
set_option maxRecDepth 20000 in
theorem gX8_again_X8_in : GoodIn wsX8_again (va_wsS RX8 59 yX8_in wsX8_in) := goodIn_app (goodIn_of _ (by decide +kernel)) ggX8_again_X8_in
set_option maxRecDepth 20000 in
theorem ggX8_again_X8_nodes : GoodIn wsX8_again wsX8_nodes := goodIn_r _ [12, 13, 14, 8, 15, 16, 17, 18, 19, 20, 21, 22, 23, 24, 25, 26, 27, 28, 29, 30, 31, 32, 33, 34, 35, 36, 37, 38, 39, 40, 41, 42, 43, 44, 45, 46] (by decide +kernel) (by decide +kernel)
set_option maxRecDepth 20000 in
theorem gX8_again_X8_nodes : GoodIn wsX8_again (va_wsS RX8 126 yX8_nodes wsX8_nodes) := goodIn_app (goodIn_of _ (by decide +kernel)) ggX8_again_X8_nodes
theorem dX8_again_0 : decode cX8_again 0 = .ok (.aload_n 0, 1) := by decide +kernel
theorem dX8_again_1 : decode cX8_again 1 = .ok (.iconst 0, 1) := by decide +kernel
theorem dX8_again_2 : decode cX8_again 2 = .ok (.putfield 47, 3) := by decide +kernel
theorem dX8_again_5 : decode cX8_again 5 = .ok (.iload_n 1, 1) := by decide +kernel
theorem dX8_again_6 : decode cX8_again 6 = .ok (.i2l, 1) := by decide +kernel
theorem dX8_again_7 : decode cX8_again 7 = .ok (.lconst 0, 1) := by decide +kernel
theorem dX8_again_8 : decode cX8_again 8 = .ok (.lconst 1, 1) := by decide +kernel
theorem dX8_again_9 : decode cX8_again 9 = .ok (.invokestatic 59, 3) := by decide +kernel
theorem dX8_again_12 : decode cX8_again 12 = .ok (.ifCond .ne 5, 3) := by decide +kernel
theorem dX8_again_15 : decode cX8_again 15 = .ok (.iconst (-1), 1) := by decide +kernel
theorem dX8_again_16 : decode cX8_again 16 = .ok (.ireturn, 1) := by decide +kernel
theorem dX8_again_17 : decode cX8_again 17 = .ok (.aload_n 0, 1) := by decide +kernel
theorem dX8_again_18 : decode cX8_again 18 = .ok (.getfield 31, 3) := by decide +kernel
theorem dX8_again_21 : decode cX8_again 21 = .ok (.iload_n 1, 1) := by decide +kernel
theorem dX8_again_22 : decode cX8_again 22 = .ok (.baload, 1) := by decide +kernel
theorem dX8_again_23 : decode cX8_again 23 = .ok (.ifCond .ne 6, 3) := by decide +kernel
theorem dX8_again_26 : decode cX8_again 26 = .ok (.bipush (-3), 2) := by decide +kernel
theorem dX8_again_28 : decode cX8_again 28 = .ok (.ireturn, 1) := by decide +kernel
theorem dX8_again_29 : decode cX8_again 29 = .ok (.iconst 0, 1) := by decide +kernel
theorem dX8_again_30 : decode cX8_again 30 = .ok (.istore_n 2, 1) := by decide +kernel
theorem dX8_again_31 : decode cX8_again 31 = .ok (.iload_n 2, 1) := by decide +kernel
theorem dX8_again_32 : decode cX8_again 32 = .ok (.bipush 39, 2) := by decide +kernel
theorem dX8_again_34 : decode cX8_again 34 = .ok (.if_icmp .ge 26, 3) := by decide +kernel
theorem dX8_again_37 : decode cX8_again 37 = .ok (.aload_n 0, 1) := by decide +kernel
theorem dX8_again_38 : decode cX8_again 38 = .ok (.getfield 16, 3) := by decide +kernel
theorem dX8_again_41 : decode cX8_again 41 = .ok (.iload_n 2, 1) := by decide +kernel
theorem dX8_again_42 : decode cX8_again 42 = .ok (.aload_n 0, 1) := by decide +kernel
theorem dX8_again_43 : decode cX8_again 43 = .ok (.getfield 28, 3) := by decide +kernel
theorem dX8_again_46 : decode cX8_again 46 = .ok (.bipush 39, 2) := by decide +kernel
theorem dX8_again_48 : decode cX8_again 48 = .ok (.iload_n 1, 1) := by decide +kernel
theorem dX8_again_49 : decode cX8_again 49 = .ok (.imul, 1) := by decide +kernel
theorem dX8_again_50 : decode cX8_again 50 = .ok (.iload_n 2, 1) := by decide +kernel
theorem dX8_again_51 : decode cX8_again 51 = .ok (.iadd, 1) := by decide +kernel
theorem dX8_again_52 : decode cX8_again 52 = .ok (.iaload, 1) := by decide +kernel
theorem dX8_again_53 : decode cX8_again 53 = .ok (.iastore, 1) := by decide +kernel
theorem dX8_again_54 : decode cX8_again 54 = .ok (.iinc 2 1, 3) := by decide +kernel
theorem dX8_again_57 : decode cX8_again 57 = .ok (.goto (-26), 3) := by decide +kernel
theorem dX8_again_60 : decode cX8_again 60 = .ok (.aload_n 0, 1) := by decide +kernel
theorem dX8_again_61 : decode cX8_again 61 = .ok (.iconst 0, 1) := by decide +kernel
theorem dX8_again_62 : decode cX8_again 62 = .ok (.putfield 123, 3) := by decide +kernel
theorem dX8_again_65 : decode cX8_again 65 = .ok (.aload_n 0, 1) := by decide +kernel
theorem dX8_again_66 : decode cX8_again 66 = .ok (.getfield 16, 3) := by decide +kernel
theorem dX8_again_69 : decode cX8_again 69 = .ok (.invokestatic 126, 3) := by decide +kernel
theorem dX8_again_72 : decode cX8_again 72 = .ok (.ireturn, 1) := by decide +kernel
theorem dJ6_bitCount_0f7a4_0 : decode cJ6_bitCount_0f7a4 0 = .ok (.iload_n 0, 1) := by decide +kernel
theorem dJ6_bitCount_0f7a4_1 : decode cJ6_bitCount_0f7a4 1 = .ok (.iload_n 0, 1) := by decide +kernel
theorem dJ6_bitCount_0f7a4_2 : decode cJ6_bitCount_0f7a4 2 = .ok (.iconst 1, 1) := by decide +kernel
theorem dJ6_bitCount_0f7a4_3 : decode cJ6_bitCount_0f7a4 3 = .ok (.iushr, 1) := by decide +kernel
theorem dJ6_bitCount_0f7a4_4 : decode cJ6_bitCount_0f7a4 4 = .ok (.ldc_w 265, 3) := by decide +kernel
theorem dJ6_bitCount_0f7a4_7 : decode cJ6_bitCount_0f7a4 7 = .ok (.iand, 1) := by decide +kernel
theorem dJ6_bitCount_0f7a4_8 : decode cJ6_bitCount_0f7a4 8 = .ok (.isub, 1) := by decide +kernel
theorem dJ6_bitCount_0f7a4_9 : decode cJ6_bitCount_0f7a4 9 = .ok (.istore_n 0, 1) := by decide +kernel
theorem dJ6_bitCount_0f7a4_10 : decode cJ6_bitCount_0f7a4 10 = .ok (.iload_n 0, 1) := by decide +kernel
theorem dJ6_bitCount_0f7a4_11 : decode cJ6_bitCount_0f7a4 11 = .ok (.ldc_w 266, 3) := by decide +kernel
theorem dJ6_bitCount_0f7a4_14 : decode cJ6_bitCount_0f7a4 14 = .ok (.iand, 1) := by decide +kernel
theorem dJ6_bitCount_0f7a4_15 : decode cJ6_bitCount_0f7a4 15 = .ok (.iload_n 0, 1) := by decide +kernel
theorem dJ6_bitCount_0f7a4_16 : decode cJ6_bitCount_0f7a4 16 = .ok (.iconst 2, 1) := by decide +kernel
theorem dJ6_bitCount_0f7a4_17 : decode cJ6_bitCount_0f7a4 17 = .ok (.iushr, 1) := by decide +kernel
theorem dJ6_bitCount_0f7a4_18 : decode cJ6_bitCount_0f7a4 18 = .ok (.ldc_w 266, 3) := by decide +kernel
theorem dJ6_bitCount_0f7a4_21 : decode cJ6_bitCount_0f7a4 21 = .ok (.iand, 1) := by decide +kernel
theorem dJ6_bitCount_0f7a4_22 : decode cJ6_bitCount_0f7a4 22 = .ok (.iadd, 1) := by decide +kernel
theorem dJ6_bitCount_0f7a4_23 : decode cJ6_bitCount_0f7a4 23 = .ok (.istore_n 0, 1) := by decide +kernel
theorem dJ6_bitCount_0f7a4_24 : decode cJ6_bitCount_0f7a4 24 = .ok (.iload_n 0, 1) := by decide +kernel
theorem dJ6_bitCount_0f7a4_25 : decode cJ6_bitCount_0f7a4 25 = .ok (.iload_n 0, 1) := by decide +kernel
theorem dJ6_bitCount_0f7a4_26 : decode cJ6_bitCount_0f7a4 26 = .ok (.iconst 4, 1) := by decide +kernel
theorem dJ6_bitCount_0f7a4_27 : decode cJ6_bitCount_0f7a4 27 = .ok (.iushr, 1) := by decide +kernel
theorem dJ6_bitCount_0f7a4_28 : decode cJ6_bitCount_0f7a4 28 = .ok (.iadd, 1) := by decide +kernel
theorem dJ6_bitCount_0f7a4_29 : decode cJ6_bitCount_0f7a4 29 = .ok (.ldc_w 267, 3) := by decide +kernel
theorem dJ6_bitCount_0f7a4_32 : decode cJ6_bitCount_0f7a4 32 = .ok (.iand, 1) := by decide +kernel
theorem dJ6_bitCount_0f7a4_33 : decode cJ6_bitCount_0f7a4 33 = .ok (.istore_n 0, 1) := by decide +kernel
theorem dJ6_bitCount_0f7a4_34 : decode cJ6_bitCount_0f7a4 34 = .ok (.iload_n 0, 1) := by decide +kernel
theorem dJ6_bitCount_0f7a4_35 : decode cJ6_bitCount_0f7a4 35 = .ok (.iload_n 0, 1) := by decide +kernel
theorem dJ6_bitCount_0f7a4_36 : decode cJ6_bitCount_0f7a4 36 = .ok (.bipush 8, 2) := by decide +kernel
theorem dJ6_bitCount_0f7a4_38 : decode cJ6_bitCount_0f7a4 38 = .ok (.iushr, 1) := by decide +kernel
theorem dJ6_bitCount_0f7a4_39 : decode cJ6_bitCount_0f7a4 39 = .ok (.iadd, 1) := by decide +kernel
theorem dJ6_bitCount_0f7a4_40 : decode cJ6_bitCount_0f7a4 40 = .ok (.istore_n 0, 1) := by decide +kernel
theorem dJ6_bitCount_0f7a4_41 : decode cJ6_bitCount_0f7a4 41 = .ok (.iload_n 0, 1) := by decide +kernel
theorem dJ6_bitCount_0f7a4_42 : decode cJ6_bitCount_0f7a4 42 = .ok (.iload_n 0, 1) := by decide +kernel
theorem dJ6_bitCount_0f7a4_43 : decode cJ6_bitCount_0f7a4 43 = .ok (.bipush 16, 2) := by decide +kernel
theorem dJ6_bitCount_0f7a4_45 : decode cJ6_bitCount_0f7a4 45 = .ok (.iushr, 1) := by decide +kernel
theorem dJ6_bitCount_0f7a4_46 : decode cJ6_bitCount_0f7a4 46 = .ok (.iadd, 1) := by decide +kernel
theorem dJ6_bitCount_0f7a4_47 : decode cJ6_bitCount_0f7a4 47 = .ok (.istore_n 0, 1) := by decide +kernel
theorem dJ6_bitCount_0f7a4_48 : decode cJ6_bitCount_0f7a4 48 = .ok (.iload_n 0, 1) := by decide +kernel
theorem dJ6_bitCount_0f7a4_49 : decode cJ6_bitCount_0f7a4 49 = .ok (.bipush 63, 2) := by decide +kernel
theorem dJ6_bitCount_0f7a4_51 : decode cJ6_bitCount_0f7a4 51 = .ok (.iand, 1) := by decide +kernel
theorem dJ6_bitCount_0f7a4_52 : decode cJ6_bitCount_0f7a4 52 = .ok (.ireturn, 1) := by decide +kernel
theorem dJ13_bitCount_95d88_0 : decode cJ13_bitCount_95d88 0 = .ok (.lload_n 0, 1) := by decide +kernel
theorem dJ13_bitCount_95d88_1 : decode cJ13_bitCount_95d88 1 = .ok (.lload_n 0, 1) := by decide +kernel
theorem dJ13_bitCount_95d88_2 : decode cJ13_bitCount_95d88 2 = .ok (.iconst 1, 1) := by decide +kernel
theorem dJ13_bitCount_95d88_3 : decode cJ13_bitCount_95d88 3 = .ok (.lushr, 1) := by decide +kernel
theorem dJ13_bitCount_95d88_4 : decode cJ13_bitCount_95d88 4 = .ok (.ldc2_w 314, 3) := by decide +kernel
theorem dJ13_bitCount_95d88_7 : decode cJ13_bitCount_95d88 7 = .ok (.land, 1) := by decide +kernel
theorem dJ13_bitCount_95d88_8 : decode cJ13_bitCount_95d88 8 = .ok (.lsub, 1) := by decide +kernel
theorem dJ13_bitCount_95d88_9 : decode cJ13_bitCount_95d88 9 = .ok (.lstore_n 0, 1) := by decide +kernel
theorem dJ13_bitCount_95d88_10 : decode cJ13_bitCount_95d88 10 = .ok (.lload_n 0, 1) := by decide +kernel
theorem dJ13_bitCount_95d88_11 : decode cJ13_bitCount_95d88 11 = .ok (.ldc2_w 316, 3) := by decide +kernel
theorem dJ13_bitCount_95d88_14 : decode cJ13_bitCount_95d88 14 = .ok (.land, 1) := by decide +kernel
theorem dJ13_bitCount_95d88_15 : decode cJ13_bitCount_95d88 15 = .ok (.lload_n 0, 1) := by decide +kernel
theorem dJ13_bitCount_95d88_16 : decode cJ13_bitCount_95d88 16 = .ok (.iconst 2, 1) := by decide +kernel
theorem dJ13_bitCount_95d88_17 : decode cJ13_bitCount_95d88 17 = .ok (.lushr, 1) := by decide +kernel
theorem dJ13_bitCount_95d88_18 : decode cJ13_bitCount_95d88 18 = .ok (.ldc2_w 316, 3) := by decide +kernel
theorem dJ13_bitCount_95d88_21 : decode cJ13_bitCount_95d88 21 = .ok (.land, 1) := by decide +kernel
theorem dJ13_bitCount_95d88_22 : decode cJ13_bitCount_95d88 22 = .ok (.ladd, 1) := by decide +kernel
theorem dJ13_bitCount_95d88_23 : decode cJ13_bitCount_95d88 23 = .ok (.lstore_n 0, 1) := by decide +kernel
theorem dJ13_bitCount_95d88_24 : decode cJ13_bitCount_95d88 24 = .ok (.lload_n 0, 1) := by decide +kernel
theorem dJ13_bitCount_95d88_25 : decode cJ13_bitCount_95d88 25 = .ok (.lload_n 0, 1) := by decide +kernel
theorem dJ13_bitCount_95d88_26 : decode cJ13_bitCount_95d88 26 = .ok (.iconst 4, 1) := by decide +kernel
theorem dJ13_bitCount_95d88_27 : decode cJ13_bitCount_95d88 27 = .ok (.lushr, 1) := by decide +kernel
theorem dJ13_bitCount_95d88_28 : decode cJ13_bitCount_95d88 28 = .ok (.ladd, 1) := by decide +kernel
theorem dJ13_bitCount_95d88_29 : decode cJ13_bitCount_95d88 29 = .ok (.ldc2_w 318, 3) := by decide +kernel
theorem dJ13_bitCount_95d88_32 : decode cJ13_bitCount_95d88 32 = .ok (.land, 1) := by decide +kernel
theorem dJ13_bitCount_95d88_33 : decode cJ13_bitCount_95d88 33 = .ok (.lstore_n 0, 1) := by decide +kernel
theorem dJ13_bitCount_95d88_34 : decode cJ13_bitCount_95d88 34 = .ok (.lload_n 0, 1) := by decide +kernel
theorem dJ13_bitCount_95d88_35 : decode cJ13_bitCount_95d88 35 = .ok (.lload_n 0, 1) := by decide +kernel
theorem dJ13_bitCount_95d88_36 : decode cJ13_bitCount_95d88 36 = .ok (.bipush 8, 2) := by decide +kernel
theorem dJ13_bitCount_95d88_38 : decode cJ13_bitCount_95d88 38 = .ok (.lushr, 1) := by decide +kernel
theorem dJ13_bitCount_95d88_39 : decode cJ13_bitCount_95d88 39 = .ok (.ladd, 1) := by decide +kernel
theorem dJ13_bitCount_95d88_40 : decode cJ13_bitCount_95d88 40 = .ok (.lstore_n 0, 1) := by decide +kernel
theorem dJ13_bitCount_95d88_41 : decode cJ13_bitCount_95d88 41 = .ok (.lload_n 0, 1) := by decide +kernel
theorem dJ13_bitCount_95d88_42 : decode cJ13_bitCount_95d88 42 = .ok (.lload_n 0, 1) := by decide +kernel
theorem dJ13_bitCount_95d88_43 : decode cJ13_bitCount_95d88 43 = .ok (.bipush 16, 2) := by decide +kernel
theorem dJ13_bitCount_95d88_45 : decode cJ13_bitCount_95d88 45 = .ok (.lushr, 1) := by decide +kernel
theorem dJ13_bitCount_95d88_46 : decode cJ13_bitCount_95d88 46 = .ok (.ladd, 1) := by decide +kernel
theorem dJ13_bitCount_95d88_47 : decode cJ13_bitCount_95d88 47 = .ok (.lstore_n 0, 1) := by decide +kernel
theorem dJ13_bitCount_95d88_48 : decode cJ13_bitCount_95d88 48 = .ok (.lload_n 0, 1) := by decide +kernel
theorem dJ13_bitCount_95d88_49 : decode cJ13_bitCount_95d88 49 = .ok (.lload_n 0, 1) := by decide +kernel
theorem dJ13_bitCount_95d88_50 : decode cJ13_bitCount_95d88 50 = .ok (.bipush 32, 2) := by decide +kernel
theorem dJ13_bitCount_95d88_52 : decode cJ13_bitCount_95d88 52 = .ok (.lushr, 1) := by decide +kernel
theorem dJ13_bitCount_95d88_53 : decode cJ13_bitCount_95d88 53 = .ok (.ladd, 1) := by decide +kernel
theorem dJ13_bitCount_95d88_54 : decode cJ13_bitCount_95d88 54 = .ok (.lstore_n 0, 1) := by decide +kernel
theorem dJ13_bitCount_95d88_55 : decode cJ13_bitCount_95d88 55 = .ok (.lload_n 0, 1) := by decide +kernel
theorem dJ13_bitCount_95d88_56 : decode cJ13_bitCount_95d88 56 = .ok (.l2i, 1) := by decide +kernel
theorem dJ13_bitCount_95d88_57 : decode cJ13_bitCount_95d88 57 = .ok (.bipush 127, 2) := by decide +kernel
theorem dJ13_bitCount_95d88_59 : decode cJ13_bitCount_95d88 59 = .ok (.iand, 1) := by decide +kernel
theorem dJ13_bitCount_95d88_60 : decode cJ13_bitCount_95d88 60 = .ok (.ireturn, 1) := by decide +kernel
theorem dJ9_abs_0f7a4_0 : decode cJ9_abs_0f7a4 0 = .ok (.iload_n 0, 1) := by decide +kernel
theorem dJ9_abs_0f7a4_1 : decode cJ9_abs_0f7a4 1 = .ok (.ifCond .ge 8, 3) := by decide +kernel
theorem dJ9_abs_0f7a4_4 : decode cJ9_abs_0f7a4 4 = .ok (.iload_n 0, 1) := by decide +kernel
theorem dJ9_abs_0f7a4_5 : decode cJ9_abs_0f7a4 5 = .ok (.ineg, 1) := by decide +kernel
theorem dJ9_abs_0f7a4_6 : decode cJ9_abs_0f7a4 6 = .ok (.goto 4, 3) := by decide +kernel
theorem dJ9_abs_0f7a4_9 : decode cJ9_abs_0f7a4 9 = .ok (.iload_n 0, 1) := by decide +kernel
theorem dJ9_abs_0f7a4_10 : decode cJ9_abs_0f7a4 10 = .ok (.ireturn, 1) := by decide +kernel
theorem dJ9_max_7cf53_0 : decode cJ9_max_7cf53 0 = .ok (.iload_n 0, 1) := by decide +kernel
theorem dJ9_max_7cf53_1 : decode cJ9_max_7cf53 1 = .ok (.iload_n 1, 1) := by decide +kernel
theorem dJ9_max_7cf53_2 : decode cJ9_max_7cf53 2 = .ok (.if_icmp .lt 7, 3) := by decide +kernel
theorem dJ9_max_7cf53_5 : decode cJ9_max_7cf53 5 = .ok (.iload_n 0, 1) := by decide +kernel
theorem dJ9_max_7cf53_6 : decode cJ9_max_7cf53 6 = .ok (.goto 4, 3) := by decide +kernel
theorem dJ9_max_7cf53_9 : decode cJ9_max_7cf53 9 = .ok (.iload_n 1, 1) := by decide +kernel
theorem dJ9_max_7cf53_10 : decode cJ9_max_7cf53 10 = .ok (.ireturn, 1) := by decide +kernel
abbrev vwCl : List vw_C := [(RX0, TX0, 2), (RX1, TX1, 6), (RX2, TX2, 2), (RX3, TX3, 4), (RX4, TX4, 2), (RX5, TX5, 2), (RX6, TX6, 5), (RX7, TX7, 10), (RX8, TX8, 21)]
