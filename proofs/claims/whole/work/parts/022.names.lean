theorem dX8_power_12 : decode cX8_power 12 = .ok (.istore_n 2, 1) := by decide +kernel
theorem dX8_power_13 : decode cX8_power 13 = .ok (.iinc 3 1, 3) := by decide +kernel
theorem dX8_power_16 : decode cX8_power 16 = .ok (.goto (-12), 3) := by decide +kernel
theorem dX8_power_19 : decode cX8_power 19 = .ok (.iload_n 2, 1) := by decide +kernel
theorem dX8_power_20 : decode cX8_power 20 = .ok (.ireturn, 1) := by decide +kernel
theorem dX8_dotsOf_0 : decode cX8_dotsOf 0 = .ok (.aload_n 0, 1) := by decide +kernel
theorem dX8_dotsOf_1 : decode cX8_dotsOf 1 = .ok (.iconst 1, 1) := by decide +kernel
theorem dX8_dotsOf_2 : decode cX8_dotsOf 2 = .ok (.iaload, 1) := by decide +kernel
theorem dX8_dotsOf_3 : decode cX8_dotsOf 3 = .ok (.aload_n 0, 1) := by decide +kernel
theorem dX8_dotsOf_4 : decode cX8_dotsOf 4 = .ok (.iconst 2, 1) := by decide +kernel
theorem dX8_dotsOf_5 : decode cX8_dotsOf 5 = .ok (.iaload, 1) := by decide +kernel
theorem dX8_dotsOf_6 : decode cX8_dotsOf 6 = .ok (.imul, 1) := by decide +kernel
theorem dX8_dotsOf_7 : decode cX8_dotsOf 7 = .ok (.ireturn, 1) := by decide +kernel
set_option maxRecDepth 20000 in
theorem ggX8_noDot_X8_dotsOf : GoodIn wsX8_noDot wsX8_dotsOf := goodIn_r _ [5] (by decide +kernel) (by decide +kernel)
set_option maxRecDepth 20000 in
theorem gX8_noDot_X8_dotsOf : GoodIn wsX8_noDot (va_wsS RX8 55 yX8_dotsOf wsX8_dotsOf) := goodIn_app (goodIn_of _ (by decide +kernel)) ggX8_noDot_X8_dotsOf
set_option maxRecDepth 20000 in
theorem ggX8_noDot_X8_in : GoodIn wsX8_noDot wsX8_in := goodIn_r _ [8] (by decide +kernel) (by decide +kernel)
set_option maxRecDepth 20000 in
theorem gX8_noDot_X8_in : GoodIn wsX8_noDot (va_wsS RX8 59 yX8_in wsX8_in) := goodIn_app (goodIn_of _ (by decide +kernel)) ggX8_noDot_X8_in
theorem dX8_noDot_0 : decode cX8_noDot 0 = .ok (.iload_n 1, 1) := by decide +kernel
theorem dX8_noDot_1 : decode cX8_noDot 1 = .ok (.i2l, 1) := by decide +kernel
theorem dX8_noDot_2 : decode cX8_noDot 2 = .ok (.lconst 0, 1) := by decide +kernel
theorem dX8_noDot_3 : decode cX8_noDot 3 = .ok (.aload_n 0, 1) := by decide +kernel
theorem dX8_noDot_4 : decode cX8_noDot 4 = .ok (.getfield 16, 3) := by decide +kernel
theorem dX8_noDot_7 : decode cX8_noDot 7 = .ok (.invokestatic 55, 3) := by decide +kernel
theorem dX8_noDot_10 : decode cX8_noDot 10 = .ok (.iconst 1, 1) := by decide +kernel
theorem dX8_noDot_11 : decode cX8_noDot 11 = .ok (.isub, 1) := by decide +kernel
theorem dX8_noDot_12 : decode cX8_noDot 12 = .ok (.i2l, 1) := by decide +kernel
theorem dX8_noDot_13 : decode cX8_noDot 13 = .ok (.invokestatic 59, 3) := by decide +kernel
theorem dX8_noDot_16 : decode cX8_noDot 16 = .ok (.ifCond .ne 7, 3) := by decide +kernel
theorem dX8_noDot_19 : decode cX8_noDot 19 = .ok (.iconst 1, 1) := by decide +kernel
theorem dX8_noDot_20 : decode cX8_noDot 20 = .ok (.goto 4, 3) := by decide +kernel
theorem dX8_noDot_23 : decode cX8_noDot 23 = .ok (.iconst 0, 1) := by decide +kernel
theorem dX8_noDot_24 : decode cX8_noDot 24 = .ok (.ireturn, 1) := by decide +kernel
theorem dX8_isBeside_0 : decode cX8_isBeside 0 = .ok (.iload_n 1, 1) := by decide +kernel
theorem dX8_isBeside_1 : decode cX8_isBeside 1 = .ok (.aload_n 0, 1) := by decide +kernel
theorem dX8_isBeside_2 : decode cX8_isBeside 2 = .ok (.iconst 1, 1) := by decide +kernel
theorem dX8_isBeside_3 : decode cX8_isBeside 3 = .ok (.iaload, 1) := by decide +kernel
theorem dX8_isBeside_4 : decode cX8_isBeside 4 = .ok (.idiv, 1) := by decide +kernel
theorem dX8_isBeside_5 : decode cX8_isBeside 5 = .ok (.iload_n 2, 1) := by decide +kernel
theorem dX8_isBeside_6 : decode cX8_isBeside 6 = .ok (.aload_n 0, 1) := by decide +kernel
theorem dX8_isBeside_7 : decode cX8_isBeside 7 = .ok (.iconst 1, 1) := by decide +kernel
theorem dX8_isBeside_8 : decode cX8_isBeside 8 = .ok (.iaload, 1) := by decide +kernel
theorem dX8_isBeside_9 : decode cX8_isBeside 9 = .ok (.idiv, 1) := by decide +kernel
theorem dX8_isBeside_10 : decode cX8_isBeside 10 = .ok (.isub, 1) := by decide +kernel
theorem dX8_isBeside_11 : decode cX8_isBeside 11 = .ok (.istore 4, 2) := by decide +kernel
theorem dX8_isBeside_13 : decode cX8_isBeside 13 = .ok (.iload_n 1, 1) := by decide +kernel
theorem dX8_isBeside_14 : decode cX8_isBeside 14 = .ok (.aload_n 0, 1) := by decide +kernel
theorem dX8_isBeside_15 : decode cX8_isBeside 15 = .ok (.iconst 1, 1) := by decide +kernel
theorem dX8_isBeside_16 : decode cX8_isBeside 16 = .ok (.iaload, 1) := by decide +kernel
theorem dX8_isBeside_17 : decode cX8_isBeside 17 = .ok (.irem, 1) := by decide +kernel
theorem dX8_isBeside_18 : decode cX8_isBeside 18 = .ok (.iload_n 2, 1) := by decide +kernel
theorem dX8_isBeside_19 : decode cX8_isBeside 19 = .ok (.aload_n 0, 1) := by decide +kernel
theorem dX8_isBeside_20 : decode cX8_isBeside 20 = .ok (.iconst 1, 1) := by decide +kernel
theorem dX8_isBeside_21 : decode cX8_isBeside 21 = .ok (.iaload, 1) := by decide +kernel
theorem dX8_isBeside_22 : decode cX8_isBeside 22 = .ok (.irem, 1) := by decide +kernel
theorem dX8_isBeside_23 : decode cX8_isBeside 23 = .ok (.isub, 1) := by decide +kernel
theorem dX8_isBeside_24 : decode cX8_isBeside 24 = .ok (.istore 5, 2) := by decide +kernel
theorem dX8_isBeside_26 : decode cX8_isBeside 26 = .ok (.iload 4, 2) := by decide +kernel
theorem dX8_isBeside_28 : decode cX8_isBeside 28 = .ok (.iload 4, 2) := by decide +kernel
theorem dX8_isBeside_30 : decode cX8_isBeside 30 = .ok (.imul, 1) := by decide +kernel
theorem dX8_isBeside_31 : decode cX8_isBeside 31 = .ok (.iload 5, 2) := by decide +kernel
theorem dX8_isBeside_33 : decode cX8_isBeside 33 = .ok (.iload 5, 2) := by decide +kernel
theorem dX8_isBeside_35 : decode cX8_isBeside 35 = .ok (.imul, 1) := by decide +kernel
theorem dX8_isBeside_36 : decode cX8_isBeside 36 = .ok (.iadd, 1) := by decide +kernel
theorem dX8_isBeside_37 : decode cX8_isBeside 37 = .ok (.istore 6, 2) := by decide +kernel
theorem dX8_isBeside_39 : decode cX8_isBeside 39 = .ok (.iload 6, 2) := by decide +kernel
theorem dX8_isBeside_41 : decode cX8_isBeside 41 = .ok (.iconst 1, 1) := by decide +kernel
theorem dX8_isBeside_42 : decode cX8_isBeside 42 = .ok (.if_icmp .eq 15, 3) := by decide +kernel
theorem dX8_isBeside_45 : decode cX8_isBeside 45 = .ok (.iload 6, 2) := by decide +kernel
theorem dX8_isBeside_47 : decode cX8_isBeside 47 = .ok (.iconst 2, 1) := by decide +kernel
theorem dX8_isBeside_48 : decode cX8_isBeside 48 = .ok (.if_icmp .ne 13, 3) := by decide +kernel
theorem dX8_isBeside_51 : decode cX8_isBeside 51 = .ok (.iload_n 3, 1) := by decide +kernel
theorem dX8_isBeside_52 : decode cX8_isBeside 52 = .ok (.bipush 8, 2) := by decide +kernel
theorem dX8_isBeside_54 : decode cX8_isBeside 54 = .ok (.if_icmp .ne 7, 3) := by decide +kernel
theorem dX8_isBeside_57 : decode cX8_isBeside 57 = .ok (.iconst 1, 1) := by decide +kernel
theorem dX8_isBeside_58 : decode cX8_isBeside 58 = .ok (.goto 4, 3) := by decide +kernel
theorem dX8_isBeside_61 : decode cX8_isBeside 61 = .ok (.iconst 0, 1) := by decide +kernel
theorem dX8_isBeside_62 : decode cX8_isBeside 62 = .ok (.ireturn, 1) := by decide +kernel
set_option maxRecDepth 20000 in
theorem ggX8_bright_X8_dotsOf : GoodIn wsX8_bright wsX8_dotsOf := goodIn_r _ [4] (by decide +kernel) (by decide +kernel)
set_option maxRecDepth 20000 in
theorem gX8_bright_X8_dotsOf : GoodIn wsX8_bright (va_wsS RX8 55 yX8_dotsOf wsX8_dotsOf) := goodIn_app (goodIn_of _ (by decide +kernel)) ggX8_bright_X8_dotsOf
set_option maxRecDepth 20000 in
theorem ggX8_bright_X8_has : GoodIn wsX8_bright wsX8_has := goodIn_r _ [7] (by decide +kernel) (by decide +kernel)
set_option maxRecDepth 20000 in
theorem gX8_bright_X8_has : GoodIn wsX8_bright (va_wsS RX8 51 yX8_has wsX8_has) := goodIn_app (goodIn_of _ (by decide +kernel)) ggX8_bright_X8_has
theorem dX8_bright_0 : decode cX8_bright 0 = .ok (.lconst 0, 1) := by decide +kernel
theorem dX8_bright_1 : decode cX8_bright 1 = .ok (.lstore 4, 2) := by decide +kernel
theorem dX8_bright_3 : decode cX8_bright 3 = .ok (.iconst 0, 1) := by decide +kernel
theorem dX8_bright_4 : decode cX8_bright 4 = .ok (.istore 6, 2) := by decide +kernel
theorem dX8_bright_6 : decode cX8_bright 6 = .ok (.iload 6, 2) := by decide +kernel
theorem dX8_bright_8 : decode cX8_bright 8 = .ok (.aload_n 0, 1) := by decide +kernel
theorem dX8_bright_9 : decode cX8_bright 9 = .ok (.invokestatic 55, 3) := by decide +kernel
theorem dX8_bright_12 : decode cX8_bright 12 = .ok (.if_icmp .ge 41, 3) := by decide +kernel
theorem dX8_bright_15 : decode cX8_bright 15 = .ok (.lload 4, 2) := by decide +kernel
theorem dX8_bright_17 : decode cX8_bright 17 = .ok (.lload_n 2, 1) := by decide +kernel
theorem dX8_bright_18 : decode cX8_bright 18 = .ok (.iload 6, 2) := by decide +kernel
theorem dX8_bright_20 : decode cX8_bright 20 = .ok (.invokestatic 51, 3) := by decide +kernel
theorem dX8_bright_23 : decode cX8_bright 23 = .ok (.ifCond .eq 20, 3) := by decide +kernel
theorem dX8_bright_26 : decode cX8_bright 26 = .ok (.aload_n 0, 1) := by decide +kernel
theorem dX8_bright_27 : decode cX8_bright 27 = .ok (.iconst 3, 1) := by decide +kernel
theorem dX8_bright_28 : decode cX8_bright 28 = .ok (.iload 6, 2) := by decide +kernel
theorem dX8_bright_30 : decode cX8_bright 30 = .ok (.iadd, 1) := by decide +kernel
theorem dX8_bright_31 : decode cX8_bright 31 = .ok (.iaload, 1) := by decide +kernel
theorem dX8_bright_32 : decode cX8_bright 32 = .ok (.iload_n 1, 1) := by decide +kernel
theorem dX8_bright_33 : decode cX8_bright 33 = .ok (.if_icmp .lt 10, 3) := by decide +kernel
theorem dX8_bright_36 : decode cX8_bright 36 = .ok (.lconst 1, 1) := by decide +kernel
theorem dX8_bright_37 : decode cX8_bright 37 = .ok (.iload 6, 2) := by decide +kernel
theorem dX8_bright_39 : decode cX8_bright 39 = .ok (.lshl, 1) := by decide +kernel
theorem dX8_bright_40 : decode cX8_bright 40 = .ok (.goto 4, 3) := by decide +kernel
theorem dX8_bright_43 : decode cX8_bright 43 = .ok (.lconst 0, 1) := by decide +kernel
theorem dX8_bright_44 : decode cX8_bright 44 = .ok (.lor, 1) := by decide +kernel
theorem dX8_bright_45 : decode cX8_bright 45 = .ok (.lstore 4, 2) := by decide +kernel
theorem dX8_bright_47 : decode cX8_bright 47 = .ok (.iinc 6 1, 3) := by decide +kernel
theorem dX8_bright_50 : decode cX8_bright 50 = .ok (.goto (-44), 3) := by decide +kernel
theorem dX8_bright_53 : decode cX8_bright 53 = .ok (.lload 4, 2) := by decide +kernel
theorem dX8_bright_55 : decode cX8_bright 55 = .ok (.lreturn, 1) := by decide +kernel
set_option maxRecDepth 20000 in
theorem ggX8_around_X8_dotsOf : GoodIn wsX8_around wsX8_dotsOf := goodIn_r _ [4] (by decide +kernel) (by decide +kernel)
set_option maxRecDepth 20000 in
theorem gX8_around_X8_dotsOf : GoodIn wsX8_around (va_wsS RX8 55 yX8_dotsOf wsX8_dotsOf) := goodIn_app (goodIn_of _ (by decide +kernel)) ggX8_around_X8_dotsOf
set_option maxRecDepth 20000 in
theorem ggX8_around_X8_isBeside : GoodIn wsX8_around wsX8_isBeside := goodIn_r _ [7] (by decide +kernel) (by decide +kernel)
set_option maxRecDepth 20000 in
theorem gX8_around_X8_isBeside : GoodIn wsX8_around (va_wsS RX8 63 yX8_isBeside wsX8_isBeside) := goodIn_app (goodIn_of _ (by decide +kernel)) ggX8_around_X8_isBeside
theorem dX8_around_0 : decode cX8_around 0 = .ok (.lconst 0, 1) := by decide +kernel
theorem dX8_around_1 : decode cX8_around 1 = .ok (.lstore_n 3, 1) := by decide +kernel
theorem dX8_around_2 : decode cX8_around 2 = .ok (.iconst 0, 1) := by decide +kernel
theorem dX8_around_3 : decode cX8_around 3 = .ok (.istore 5, 2) := by decide +kernel
theorem dX8_around_5 : decode cX8_around 5 = .ok (.iload 5, 2) := by decide +kernel
theorem dX8_around_7 : decode cX8_around 7 = .ok (.aload_n 0, 1) := by decide +kernel
theorem dX8_around_8 : decode cX8_around 8 = .ok (.invokestatic 55, 3) := by decide +kernel
theorem dX8_around_11 : decode cX8_around 11 = .ok (.if_icmp .ge 31, 3) := by decide +kernel
theorem dX8_around_14 : decode cX8_around 14 = .ok (.lload_n 3, 1) := by decide +kernel
theorem dX8_around_15 : decode cX8_around 15 = .ok (.aload_n 0, 1) := by decide +kernel
theorem dX8_around_16 : decode cX8_around 16 = .ok (.iload_n 1, 1) := by decide +kernel
theorem dX8_around_17 : decode cX8_around 17 = .ok (.iload 5, 2) := by decide +kernel
theorem dX8_around_19 : decode cX8_around 19 = .ok (.iload_n 2, 1) := by decide +kernel
theorem dX8_around_20 : decode cX8_around 20 = .ok (.invokestatic 63, 3) := by decide +kernel
theorem dX8_around_23 : decode cX8_around 23 = .ok (.ifCond .eq 10, 3) := by decide +kernel
theorem dX8_around_26 : decode cX8_around 26 = .ok (.lconst 1, 1) := by decide +kernel
theorem dX8_around_27 : decode cX8_around 27 = .ok (.iload 5, 2) := by decide +kernel
theorem dX8_around_29 : decode cX8_around 29 = .ok (.lshl, 1) := by decide +kernel
theorem dX8_around_30 : decode cX8_around 30 = .ok (.goto 4, 3) := by decide +kernel
theorem dX8_around_33 : decode cX8_around 33 = .ok (.lconst 0, 1) := by decide +kernel
theorem dX8_around_34 : decode cX8_around 34 = .ok (.lor, 1) := by decide +kernel
theorem dX8_around_35 : decode cX8_around 35 = .ok (.lstore_n 3, 1) := by decide +kernel
theorem dX8_around_36 : decode cX8_around 36 = .ok (.iinc 5 1, 3) := by decide +kernel
theorem dX8_around_39 : decode cX8_around 39 = .ok (.goto (-34), 3) := by decide +kernel
theorem dX8_around_42 : decode cX8_around 42 = .ok (.lload_n 3, 1) := by decide +kernel
theorem dX8_around_43 : decode cX8_around 43 = .ok (.lreturn, 1) := by decide +kernel
set_option maxRecDepth 20000 in
theorem ggX8_spread_X8_has : GoodIn wsX8_spread wsX8_has := goodIn_r _ [5] (by decide +kernel) (by decide +kernel)
set_option maxRecDepth 20000 in
theorem gX8_spread_X8_has : GoodIn wsX8_spread (va_wsS RX8 51 yX8_has wsX8_has) := goodIn_app (goodIn_of _ (by decide +kernel)) ggX8_spread_X8_has
set_option maxRecDepth 20000 in
theorem ggX8_spread_X8_around : GoodIn wsX8_spread wsX8_around := goodIn_r _ [8, 9, 10, 4, 11, 12, 13, 14] (by decide +kernel) (by decide +kernel)
set_option maxRecDepth 20000 in
theorem gX8_spread_X8_around : GoodIn wsX8_spread (va_wsS RX8 69 yX8_around wsX8_around) := goodIn_app (goodIn_of _ (by decide +kernel)) ggX8_spread_X8_around
theorem dX8_spread_0 : decode cX8_spread 0 = .ok (.lload_n 2, 1) := by decide +kernel
theorem dX8_spread_1 : decode cX8_spread 1 = .ok (.lconst 1, 1) := by decide +kernel
theorem dX8_spread_2 : decode cX8_spread 2 = .ok (.iload_n 1, 1) := by decide +kernel
theorem dX8_spread_3 : decode cX8_spread 3 = .ok (.lshl, 1) := by decide +kernel
theorem dX8_spread_4 : decode cX8_spread 4 = .ok (.land, 1) := by decide +kernel
theorem dX8_spread_5 : decode cX8_spread 5 = .ok (.lstore 5, 2) := by decide +kernel
theorem dX8_spread_7 : decode cX8_spread 7 = .ok (.lconst 0, 1) := by decide +kernel
theorem dX8_spread_8 : decode cX8_spread 8 = .ok (.lstore 7, 2) := by decide +kernel
theorem dX8_spread_10 : decode cX8_spread 10 = .ok (.lload 5, 2) := by decide +kernel
theorem dX8_spread_12 : decode cX8_spread 12 = .ok (.lload 7, 2) := by decide +kernel
theorem dX8_spread_14 : decode cX8_spread 14 = .ok (.lcmp, 1) := by decide +kernel
theorem dX8_spread_15 : decode cX8_spread 15 = .ok (.ifCond .eq 56, 3) := by decide +kernel
theorem dX8_spread_18 : decode cX8_spread 18 = .ok (.iconst 0, 1) := by decide +kernel
theorem dX8_spread_19 : decode cX8_spread 19 = .ok (.istore 9, 2) := by decide +kernel
theorem dX8_spread_21 : decode cX8_spread 21 = .ok (.lload 5, 2) := by decide +kernel
theorem dX8_spread_23 : decode cX8_spread 23 = .ok (.lload 7, 2) := by decide +kernel
theorem dX8_spread_25 : decode cX8_spread 25 = .ok (.ldc2_w 67, 3) := by decide +kernel
theorem dX8_spread_28 : decode cX8_spread 28 = .ok (.lxor, 1) := by decide +kernel
theorem dX8_spread_29 : decode cX8_spread 29 = .ok (.land, 1) := by decide +kernel
theorem dX8_spread_30 : decode cX8_spread 30 = .ok (.iload 9, 2) := by decide +kernel
theorem dX8_spread_32 : decode cX8_spread 32 = .ok (.invokestatic 51, 3) := by decide +kernel
theorem dX8_spread_35 : decode cX8_spread 35 = .ok (.ifCond .ne 9, 3) := by decide +kernel
theorem dX8_spread_38 : decode cX8_spread 38 = .ok (.iinc 9 1, 3) := by decide +kernel
theorem dX8_spread_41 : decode cX8_spread 41 = .ok (.goto (-20), 3) := by decide +kernel
theorem dX8_spread_44 : decode cX8_spread 44 = .ok (.lload 7, 2) := by decide +kernel
theorem dX8_spread_46 : decode cX8_spread 46 = .ok (.lconst 1, 1) := by decide +kernel
theorem dX8_spread_47 : decode cX8_spread 47 = .ok (.iload 9, 2) := by decide +kernel
theorem dX8_spread_49 : decode cX8_spread 49 = .ok (.lshl, 1) := by decide +kernel
theorem dX8_spread_50 : decode cX8_spread 50 = .ok (.lor, 1) := by decide +kernel
theorem dX8_spread_51 : decode cX8_spread 51 = .ok (.lstore 7, 2) := by decide +kernel
theorem dX8_spread_53 : decode cX8_spread 53 = .ok (.lload 5, 2) := by decide +kernel
theorem dX8_spread_55 : decode cX8_spread 55 = .ok (.lload_n 2, 1) := by decide +kernel
theorem dX8_spread_56 : decode cX8_spread 56 = .ok (.aload_n 0, 1) := by decide +kernel
theorem dX8_spread_57 : decode cX8_spread 57 = .ok (.iload 9, 2) := by decide +kernel
theorem dX8_spread_59 : decode cX8_spread 59 = .ok (.iload 4, 2) := by decide +kernel
theorem dX8_spread_61 : decode cX8_spread 61 = .ok (.invokestatic 69, 3) := by decide +kernel
theorem dX8_spread_64 : decode cX8_spread 64 = .ok (.land, 1) := by decide +kernel
theorem dX8_spread_65 : decode cX8_spread 65 = .ok (.lor, 1) := by decide +kernel
theorem dX8_spread_66 : decode cX8_spread 66 = .ok (.lstore 5, 2) := by decide +kernel
theorem dX8_spread_68 : decode cX8_spread 68 = .ok (.goto (-58), 3) := by decide +kernel
theorem dX8_spread_71 : decode cX8_spread 71 = .ok (.lload 5, 2) := by decide +kernel
theorem dX8_spread_73 : decode cX8_spread 73 = .ok (.lreturn, 1) := by decide +kernel
set_option maxRecDepth 20000 in
theorem ggX8_part_X8_bright : GoodIn wsX8_part wsX8_bright := goodIn_r _ [5, 6, 7, 4, 8, 9, 10, 11] (by decide +kernel) (by decide +kernel)
set_option maxRecDepth 20000 in
theorem gX8_part_X8_bright : GoodIn wsX8_part (va_wsS RX8 73 yX8_bright wsX8_bright) := goodIn_app (goodIn_of _ (by decide +kernel)) ggX8_part_X8_bright
set_option maxRecDepth 20000 in
theorem ggX8_part_X8_spread : GoodIn wsX8_part wsX8_spread := goodIn_r _ [14, 1, 9, 10, 4, 11, 15, 16, 17, 6, 7, 8, 18, 19, 20] (by decide +kernel) (by decide +kernel)
set_option maxRecDepth 20000 in
theorem gX8_part_X8_spread : GoodIn wsX8_part (va_wsS RX8 77 yX8_spread wsX8_spread) := goodIn_app (goodIn_of _ (by decide +kernel)) ggX8_part_X8_spread
theorem dX8_part_0 : decode cX8_part 0 = .ok (.aload_n 0, 1) := by decide +kernel
theorem dX8_part_1 : decode cX8_part 1 = .ok (.iload_n 1, 1) := by decide +kernel
theorem dX8_part_2 : decode cX8_part 2 = .ok (.aload_n 0, 1) := by decide +kernel
theorem dX8_part_3 : decode cX8_part 3 = .ok (.iload_n 2, 1) := by decide +kernel
theorem dX8_part_4 : decode cX8_part 4 = .ok (.ldc2_w 67, 3) := by decide +kernel
theorem dX8_part_7 : decode cX8_part 7 = .ok (.invokestatic 73, 3) := by decide +kernel
theorem dX8_part_10 : decode cX8_part 10 = .ok (.aload_n 0, 1) := by decide +kernel
theorem dX8_part_11 : decode cX8_part 11 = .ok (.iconst 0, 1) := by decide +kernel
theorem dX8_part_12 : decode cX8_part 12 = .ok (.iaload, 1) := by decide +kernel
theorem dX8_part_13 : decode cX8_part 13 = .ok (.invokestatic 77, 3) := by decide +kernel
theorem dX8_part_16 : decode cX8_part 16 = .ok (.lreturn, 1) := by decide +kernel
set_option maxRecDepth 20000 in
theorem ggX8_partsOf_X8_bright : GoodIn wsX8_partsOf wsX8_bright := goodIn_r _ [5, 6, 7, 4, 8, 9, 10, 11] (by decide +kernel) (by decide +kernel)
set_option maxRecDepth 20000 in
theorem gX8_partsOf_X8_bright : GoodIn wsX8_partsOf (va_wsS RX8 73 yX8_bright wsX8_bright) := goodIn_app (goodIn_of _ (by decide +kernel)) ggX8_partsOf_X8_bright
set_option maxRecDepth 20000 in
theorem ggX8_partsOf_X8_dotsOf : GoodIn wsX8_partsOf wsX8_dotsOf := goodIn_r _ [8] (by decide +kernel) (by decide +kernel)
set_option maxRecDepth 20000 in
theorem gX8_partsOf_X8_dotsOf : GoodIn wsX8_partsOf (va_wsS RX8 55 yX8_dotsOf wsX8_dotsOf) := goodIn_app (goodIn_of _ (by decide +kernel)) ggX8_partsOf_X8_dotsOf
set_option maxRecDepth 20000 in
theorem ggX8_partsOf_X8_has : GoodIn wsX8_partsOf wsX8_has := goodIn_r _ [11] (by decide +kernel) (by decide +kernel)
set_option maxRecDepth 20000 in
theorem gX8_partsOf_X8_has : GoodIn wsX8_partsOf (va_wsS RX8 51 yX8_has wsX8_has) := goodIn_app (goodIn_of _ (by decide +kernel)) ggX8_partsOf_X8_has
set_option maxRecDepth 20000 in
theorem ggX8_partsOf_X8_spread : GoodIn wsX8_partsOf wsX8_spread := goodIn_r _ [14, 1, 9, 10, 4, 11, 15, 16, 17, 6, 7, 8, 18, 19, 20] (by decide +kernel) (by decide +kernel)
set_option maxRecDepth 20000 in
theorem gX8_partsOf_X8_spread : GoodIn wsX8_partsOf (va_wsS RX8 77 yX8_spread wsX8_spread) := goodIn_app (goodIn_of _ (by decide +kernel)) ggX8_partsOf_X8_spread
theorem dX8_partsOf_0 : decode cX8_partsOf 0 = .ok (.aload_n 0, 1) := by decide +kernel
theorem dX8_partsOf_1 : decode cX8_partsOf 1 = .ok (.iload_n 1, 1) := by decide +kernel
theorem dX8_partsOf_2 : decode cX8_partsOf 2 = .ok (.lload_n 2, 1) := by decide +kernel
theorem dX8_partsOf_3 : decode cX8_partsOf 3 = .ok (.invokestatic 73, 3) := by decide +kernel
theorem dX8_partsOf_6 : decode cX8_partsOf 6 = .ok (.lstore 4, 2) := by decide +kernel
theorem dX8_partsOf_8 : decode cX8_partsOf 8 = .ok (.iconst 0, 1) := by decide +kernel
theorem dX8_partsOf_9 : decode cX8_partsOf 9 = .ok (.istore 6, 2) := by decide +kernel
theorem dX8_partsOf_11 : decode cX8_partsOf 11 = .ok (.iconst 0, 1) := by decide +kernel
theorem dX8_partsOf_12 : decode cX8_partsOf 12 = .ok (.istore 7, 2) := by decide +kernel
theorem dX8_partsOf_14 : decode cX8_partsOf 14 = .ok (.iload 7, 2) := by decide +kernel
theorem dX8_partsOf_16 : decode cX8_partsOf 16 = .ok (.aload_n 0, 1) := by decide +kernel
theorem dX8_partsOf_17 : decode cX8_partsOf 17 = .ok (.invokestatic 55, 3) := by decide +kernel
theorem dX8_partsOf_20 : decode cX8_partsOf 20 = .ok (.if_icmp .ge 42, 3) := by decide +kernel
theorem dX8_partsOf_23 : decode cX8_partsOf 23 = .ok (.lload 4, 2) := by decide +kernel
theorem dX8_partsOf_25 : decode cX8_partsOf 25 = .ok (.iload 7, 2) := by decide +kernel
theorem dX8_partsOf_27 : decode cX8_partsOf 27 = .ok (.invokestatic 51, 3) := by decide +kernel
theorem dX8_partsOf_30 : decode cX8_partsOf 30 = .ok (.ifCond .eq 26, 3) := by decide +kernel
theorem dX8_partsOf_33 : decode cX8_partsOf 33 = .ok (.lload 4, 2) := by decide +kernel
theorem dX8_partsOf_35 : decode cX8_partsOf 35 = .ok (.aload_n 0, 1) := by decide +kernel
theorem dX8_partsOf_36 : decode cX8_partsOf 36 = .ok (.iload 7, 2) := by decide +kernel
theorem dX8_partsOf_38 : decode cX8_partsOf 38 = .ok (.lload 4, 2) := by decide +kernel
theorem dX8_partsOf_40 : decode cX8_partsOf 40 = .ok (.aload_n 0, 1) := by decide +kernel
theorem dX8_partsOf_41 : decode cX8_partsOf 41 = .ok (.iconst 0, 1) := by decide +kernel
theorem dX8_partsOf_42 : decode cX8_partsOf 42 = .ok (.iaload, 1) := by decide +kernel
theorem dX8_partsOf_43 : decode cX8_partsOf 43 = .ok (.invokestatic 77, 3) := by decide +kernel
theorem dX8_partsOf_46 : decode cX8_partsOf 46 = .ok (.ldc2_w 67, 3) := by decide +kernel
theorem dX8_partsOf_49 : decode cX8_partsOf 49 = .ok (.lxor, 1) := by decide +kernel
theorem dX8_partsOf_50 : decode cX8_partsOf 50 = .ok (.land, 1) := by decide +kernel
theorem dX8_partsOf_51 : decode cX8_partsOf 51 = .ok (.lstore 4, 2) := by decide +kernel
theorem dX8_partsOf_53 : decode cX8_partsOf 53 = .ok (.iinc 6 1, 3) := by decide +kernel
theorem dX8_partsOf_56 : decode cX8_partsOf 56 = .ok (.iinc 7 1, 3) := by decide +kernel
theorem dX8_partsOf_59 : decode cX8_partsOf 59 = .ok (.goto (-45), 3) := by decide +kernel
theorem dX8_partsOf_62 : decode cX8_partsOf 62 = .ok (.iload 6, 2) := by decide +kernel
theorem dX8_partsOf_64 : decode cX8_partsOf 64 = .ok (.ireturn, 1) := by decide +kernel
set_option maxRecDepth 20000 in
theorem ggX8_nodeOf_X8_part : GoodIn wsX8_nodeOf wsX8_part := goodIn_r _ [4, 5, 6, 7, 3, 8, 9, 10, 11, 12, 13, 14, 15, 16, 17, 18, 19, 20, 21, 22, 23] (by decide +kernel) (by decide +kernel)
set_option maxRecDepth 20000 in
theorem gX8_nodeOf_X8_part : GoodIn wsX8_nodeOf (va_wsS RX8 81 yX8_part wsX8_part) := goodIn_app (goodIn_of _ (by decide +kernel)) ggX8_nodeOf_X8_part
theorem dX8_nodeOf_0 : decode cX8_nodeOf 0 = .ok (.aload_n 0, 1) := by decide +kernel
theorem dX8_nodeOf_1 : decode cX8_nodeOf 1 = .ok (.iload_n 1, 1) := by decide +kernel
theorem dX8_nodeOf_2 : decode cX8_nodeOf 2 = .ok (.aload_n 0, 1) := by decide +kernel
theorem dX8_nodeOf_3 : decode cX8_nodeOf 3 = .ok (.iconst 3, 1) := by decide +kernel
theorem dX8_nodeOf_4 : decode cX8_nodeOf 4 = .ok (.iload_n 1, 1) := by decide +kernel
theorem dX8_nodeOf_5 : decode cX8_nodeOf 5 = .ok (.iadd, 1) := by decide +kernel
theorem dX8_nodeOf_6 : decode cX8_nodeOf 6 = .ok (.iaload, 1) := by decide +kernel
theorem dX8_nodeOf_7 : decode cX8_nodeOf 7 = .ok (.invokestatic 81, 3) := by decide +kernel
theorem dX8_nodeOf_10 : decode cX8_nodeOf 10 = .ok (.lreturn, 1) := by decide +kernel
set_option maxRecDepth 20000 in
theorem ggX8_level_X8_dotsOf : GoodIn wsX8_level wsX8_dotsOf := goodIn_r _ [4] (by decide +kernel) (by decide +kernel)
set_option maxRecDepth 20000 in
theorem gX8_level_X8_dotsOf : GoodIn wsX8_level (va_wsS RX8 55 yX8_dotsOf wsX8_dotsOf) := goodIn_app (goodIn_of _ (by decide +kernel)) ggX8_level_X8_dotsOf
set_option maxRecDepth 20000 in
theorem ggX8_level_X8_has : GoodIn wsX8_level wsX8_has := goodIn_r _ [7] (by decide +kernel) (by decide +kernel)
set_option maxRecDepth 20000 in
theorem gX8_level_X8_has : GoodIn wsX8_level (va_wsS RX8 51 yX8_has wsX8_has) := goodIn_app (goodIn_of _ (by decide +kernel)) ggX8_level_X8_has
theorem dX8_level_0 : decode cX8_level 0 = .ok (.bipush 10, 2) := by decide +kernel
theorem dX8_level_2 : decode cX8_level 2 = .ok (.istore_n 3, 1) := by decide +kernel
theorem dX8_level_3 : decode cX8_level 3 = .ok (.iconst 0, 1) := by decide +kernel
theorem dX8_level_4 : decode cX8_level 4 = .ok (.istore 4, 2) := by decide +kernel
theorem dX8_level_6 : decode cX8_level 6 = .ok (.iload 4, 2) := by decide +kernel
theorem dX8_level_8 : decode cX8_level 8 = .ok (.aload_n 0, 1) := by decide +kernel
theorem dX8_level_9 : decode cX8_level 9 = .ok (.invokestatic 55, 3) := by decide +kernel
theorem dX8_level_12 : decode cX8_level 12 = .ok (.if_icmp .ge 39, 3) := by decide +kernel
theorem dX8_level_15 : decode cX8_level 15 = .ok (.lload_n 1, 1) := by decide +kernel
theorem dX8_level_16 : decode cX8_level 16 = .ok (.iload 4, 2) := by decide +kernel
theorem dX8_level_18 : decode cX8_level 18 = .ok (.invokestatic 51, 3) := by decide +kernel
theorem dX8_level_21 : decode cX8_level 21 = .ok (.ifCond .eq 22, 3) := by decide +kernel
theorem dX8_level_24 : decode cX8_level 24 = .ok (.aload_n 0, 1) := by decide +kernel
theorem dX8_level_25 : decode cX8_level 25 = .ok (.iconst 3, 1) := by decide +kernel
theorem dX8_level_26 : decode cX8_level 26 = .ok (.iload 4, 2) := by decide +kernel
theorem dX8_level_28 : decode cX8_level 28 = .ok (.iadd, 1) := by decide +kernel
theorem dX8_level_29 : decode cX8_level 29 = .ok (.iaload, 1) := by decide +kernel
theorem dX8_level_30 : decode cX8_level 30 = .ok (.iload_n 3, 1) := by decide +kernel
theorem dX8_level_31 : decode cX8_level 31 = .ok (.if_icmp .ge 12, 3) := by decide +kernel
theorem dX8_level_34 : decode cX8_level 34 = .ok (.aload_n 0, 1) := by decide +kernel
theorem dX8_level_35 : decode cX8_level 35 = .ok (.iconst 3, 1) := by decide +kernel
theorem dX8_level_36 : decode cX8_level 36 = .ok (.iload 4, 2) := by decide +kernel
theorem dX8_level_38 : decode cX8_level 38 = .ok (.iadd, 1) := by decide +kernel
theorem dX8_level_39 : decode cX8_level 39 = .ok (.iaload, 1) := by decide +kernel
theorem dX8_level_40 : decode cX8_level 40 = .ok (.goto 4, 3) := by decide +kernel
theorem dX8_level_43 : decode cX8_level 43 = .ok (.iload_n 3, 1) := by decide +kernel
theorem dX8_level_44 : decode cX8_level 44 = .ok (.istore_n 3, 1) := by decide +kernel
theorem dX8_level_45 : decode cX8_level 45 = .ok (.iinc 4 1, 3) := by decide +kernel
theorem dX8_level_48 : decode cX8_level 48 = .ok (.goto (-42), 3) := by decide +kernel
theorem dX8_level_51 : decode cX8_level 51 = .ok (.iload_n 3, 1) := by decide +kernel
theorem dX8_level_52 : decode cX8_level 52 = .ok (.ireturn, 1) := by decide +kernel
set_option maxRecDepth 20000 in
theorem ggX8_brightest_X8_dotsOf : GoodIn wsX8_brightest wsX8_dotsOf := goodIn_r _ [4] (by decide +kernel) (by decide +kernel)
set_option maxRecDepth 20000 in
theorem gX8_brightest_X8_dotsOf : GoodIn wsX8_brightest (va_wsS RX8 55 yX8_dotsOf wsX8_dotsOf) := goodIn_app (goodIn_of _ (by decide +kernel)) ggX8_brightest_X8_dotsOf
set_option maxRecDepth 20000 in
theorem ggX8_brightest_X8_has : GoodIn wsX8_brightest wsX8_has := goodIn_r _ [7] (by decide +kernel) (by decide +kernel)
set_option maxRecDepth 20000 in
theorem gX8_brightest_X8_has : GoodIn wsX8_brightest (va_wsS RX8 51 yX8_has wsX8_has) := goodIn_app (goodIn_of _ (by decide +kernel)) ggX8_brightest_X8_has
theorem dX8_brightest_0 : decode cX8_brightest 0 = .ok (.bipush (-9), 2) := by decide +kernel
theorem dX8_brightest_2 : decode cX8_brightest 2 = .ok (.istore_n 3, 1) := by decide +kernel
theorem dX8_brightest_3 : decode cX8_brightest 3 = .ok (.iconst 0, 1) := by decide +kernel
theorem dX8_brightest_4 : decode cX8_brightest 4 = .ok (.istore 4, 2) := by decide +kernel
theorem dX8_brightest_6 : decode cX8_brightest 6 = .ok (.iload 4, 2) := by decide +kernel
theorem dX8_brightest_8 : decode cX8_brightest 8 = .ok (.aload_n 0, 1) := by decide +kernel
theorem dX8_brightest_9 : decode cX8_brightest 9 = .ok (.invokestatic 55, 3) := by decide +kernel
theorem dX8_brightest_12 : decode cX8_brightest 12 = .ok (.if_icmp .ge 39, 3) := by decide +kernel
theorem dX8_brightest_15 : decode cX8_brightest 15 = .ok (.lload_n 1, 1) := by decide +kernel
theorem dX8_brightest_16 : decode cX8_brightest 16 = .ok (.iload 4, 2) := by decide +kernel
theorem dX8_brightest_18 : decode cX8_brightest 18 = .ok (.invokestatic 51, 3) := by decide +kernel
theorem dX8_brightest_21 : decode cX8_brightest 21 = .ok (.ifCond .eq 22, 3) := by decide +kernel
theorem dX8_brightest_24 : decode cX8_brightest 24 = .ok (.aload_n 0, 1) := by decide +kernel
theorem dX8_brightest_25 : decode cX8_brightest 25 = .ok (.iconst 3, 1) := by decide +kernel
theorem dX8_brightest_26 : decode cX8_brightest 26 = .ok (.iload 4, 2) := by decide +kernel
theorem dX8_brightest_28 : decode cX8_brightest 28 = .ok (.iadd, 1) := by decide +kernel
theorem dX8_brightest_29 : decode cX8_brightest 29 = .ok (.iaload, 1) := by decide +kernel
theorem dX8_brightest_30 : decode cX8_brightest 30 = .ok (.iload_n 3, 1) := by decide +kernel
theorem dX8_brightest_31 : decode cX8_brightest 31 = .ok (.if_icmp .le 12, 3) := by decide +kernel
theorem dX8_brightest_34 : decode cX8_brightest 34 = .ok (.aload_n 0, 1) := by decide +kernel
theorem dX8_brightest_35 : decode cX8_brightest 35 = .ok (.iconst 3, 1) := by decide +kernel
theorem dX8_brightest_36 : decode cX8_brightest 36 = .ok (.iload 4, 2) := by decide +kernel
theorem dX8_brightest_38 : decode cX8_brightest 38 = .ok (.iadd, 1) := by decide +kernel
theorem dX8_brightest_39 : decode cX8_brightest 39 = .ok (.iaload, 1) := by decide +kernel
theorem dX8_brightest_40 : decode cX8_brightest 40 = .ok (.goto 4, 3) := by decide +kernel
theorem dX8_brightest_43 : decode cX8_brightest 43 = .ok (.iload_n 3, 1) := by decide +kernel
theorem dX8_brightest_44 : decode cX8_brightest 44 = .ok (.istore_n 3, 1) := by decide +kernel
theorem dX8_brightest_45 : decode cX8_brightest 45 = .ok (.iinc 4 1, 3) := by decide +kernel
theorem dX8_brightest_48 : decode cX8_brightest 48 = .ok (.goto (-42), 3) := by decide +kernel
theorem dX8_brightest_51 : decode cX8_brightest 51 = .ok (.iload_n 3, 1) := by decide +kernel
theorem dX8_brightest_52 : decode cX8_brightest 52 = .ok (.ireturn, 1) := by decide +kernel
set_option maxRecDepth 20000 in
theorem ggX8_head_X8_level : GoodIn wsX8_head wsX8_level := goodIn_r _ [4, 5, 6, 3, 7, 8, 9, 10] (by decide +kernel) (by decide +kernel)
set_option maxRecDepth 20000 in
theorem gX8_head_X8_level : GoodIn wsX8_head (va_wsS RX8 84 yX8_level wsX8_level) := goodIn_app (goodIn_of _ (by decide +kernel)) ggX8_head_X8_level
set_option maxRecDepth 20000 in
theorem ggX8_head_X8_has : GoodIn wsX8_head wsX8_has := goodIn_r _ [10] (by decide +kernel) (by decide +kernel)
set_option maxRecDepth 20000 in
theorem gX8_head_X8_has : GoodIn wsX8_head (va_wsS RX8 51 yX8_has wsX8_has) := goodIn_app (goodIn_of _ (by decide +kernel)) ggX8_head_X8_has
theorem dX8_head_0 : decode cX8_head 0 = .ok (.aload_n 0, 1) := by decide +kernel
theorem dX8_head_1 : decode cX8_head 1 = .ok (.lload_n 1, 1) := by decide +kernel
theorem dX8_head_2 : decode cX8_head 2 = .ok (.invokestatic 84, 3) := by decide +kernel
theorem dX8_head_5 : decode cX8_head 5 = .ok (.istore_n 3, 1) := by decide +kernel
theorem dX8_head_6 : decode cX8_head 6 = .ok (.iconst 0, 1) := by decide +kernel
theorem dX8_head_7 : decode cX8_head 7 = .ok (.istore 4, 2) := by decide +kernel
theorem dX8_head_9 : decode cX8_head 9 = .ok (.lload_n 1, 1) := by decide +kernel
theorem dX8_head_10 : decode cX8_head 10 = .ok (.iload 4, 2) := by decide +kernel
theorem dX8_head_12 : decode cX8_head 12 = .ok (.invokestatic 51, 3) := by decide +kernel
theorem dX8_head_15 : decode cX8_head 15 = .ok (.ifCond .eq 13, 3) := by decide +kernel
theorem dX8_head_18 : decode cX8_head 18 = .ok (.aload_n 0, 1) := by decide +kernel
theorem dX8_head_19 : decode cX8_head 19 = .ok (.iconst 3, 1) := by decide +kernel
theorem dX8_head_20 : decode cX8_head 20 = .ok (.iload 4, 2) := by decide +kernel
theorem dX8_head_22 : decode cX8_head 22 = .ok (.iadd, 1) := by decide +kernel
theorem dX8_head_23 : decode cX8_head 23 = .ok (.iaload, 1) := by decide +kernel
theorem dX8_head_24 : decode cX8_head 24 = .ok (.iload_n 3, 1) := by decide +kernel
theorem dX8_head_25 : decode cX8_head 25 = .ok (.if_icmp .eq 9, 3) := by decide +kernel
theorem dX8_head_28 : decode cX8_head 28 = .ok (.iinc 4 1, 3) := by decide +kernel
theorem dX8_head_31 : decode cX8_head 31 = .ok (.goto (-22), 3) := by decide +kernel
theorem dX8_head_34 : decode cX8_head 34 = .ok (.iload 4, 2) := by decide +kernel
theorem dX8_head_36 : decode cX8_head 36 = .ok (.ireturn, 1) := by decide +kernel
set_option maxRecDepth 20000 in
theorem ggX8_parent_X8_head : GoodIn wsX8_parent wsX8_head := goodIn_r _ [4, 5, 6, 3, 7, 8, 9, 10, 11, 12, 13] (by decide +kernel) (by decide +kernel)
set_option maxRecDepth 20000 in
theorem gX8_parent_X8_head : GoodIn wsX8_parent (va_wsS RX8 88 yX8_head wsX8_head) := goodIn_app (goodIn_of _ (by decide +kernel)) ggX8_parent_X8_head
set_option maxRecDepth 20000 in
theorem ggX8_parent_X8_level : GoodIn wsX8_parent wsX8_level := goodIn_r _ [7, 8, 9, 3, 10, 11, 12, 13] (by decide +kernel) (by decide +kernel)
set_option maxRecDepth 20000 in
theorem gX8_parent_X8_level : GoodIn wsX8_parent (va_wsS RX8 84 yX8_level wsX8_level) := goodIn_app (goodIn_of _ (by decide +kernel)) ggX8_parent_X8_level
set_option maxRecDepth 20000 in
theorem ggX8_parent_X8_part : GoodIn wsX8_parent wsX8_part := goodIn_r _ [16, 17, 18, 19, 3, 20, 8, 9, 10, 11, 12, 13, 21, 22, 23, 24, 25, 26, 27, 28, 29] (by decide +kernel) (by decide +kernel)
set_option maxRecDepth 20000 in
theorem gX8_parent_X8_part : GoodIn wsX8_parent (va_wsS RX8 81 yX8_part wsX8_part) := goodIn_app (goodIn_of _ (by decide +kernel)) ggX8_parent_X8_part
theorem dX8_parent_0 : decode cX8_parent 0 = .ok (.aload_n 0, 1) := by decide +kernel
theorem dX8_parent_1 : decode cX8_parent 1 = .ok (.lload_n 1, 1) := by decide +kernel
theorem dX8_parent_2 : decode cX8_parent 2 = .ok (.invokestatic 88, 3) := by decide +kernel
theorem dX8_parent_5 : decode cX8_parent 5 = .ok (.istore_n 3, 1) := by decide +kernel
theorem dX8_parent_6 : decode cX8_parent 6 = .ok (.lload_n 1, 1) := by decide +kernel
theorem dX8_parent_7 : decode cX8_parent 7 = .ok (.lstore 4, 2) := by decide +kernel
theorem dX8_parent_9 : decode cX8_parent 9 = .ok (.aload_n 0, 1) := by decide +kernel
theorem dX8_parent_10 : decode cX8_parent 10 = .ok (.lload_n 1, 1) := by decide +kernel
theorem dX8_parent_11 : decode cX8_parent 11 = .ok (.invokestatic 84, 3) := by decide +kernel
theorem dX8_parent_14 : decode cX8_parent 14 = .ok (.iconst 1, 1) := by decide +kernel
theorem dX8_parent_15 : decode cX8_parent 15 = .ok (.isub, 1) := by decide +kernel
theorem dX8_parent_16 : decode cX8_parent 16 = .ok (.istore 6, 2) := by decide +kernel
theorem dX8_parent_18 : decode cX8_parent 18 = .ok (.iload 6, 2) := by decide +kernel
theorem dX8_parent_20 : decode cX8_parent 20 = .ok (.ifCond .lt 25, 3) := by decide +kernel
theorem dX8_parent_23 : decode cX8_parent 23 = .ok (.lload 4, 2) := by decide +kernel
theorem dX8_parent_25 : decode cX8_parent 25 = .ok (.lload_n 1, 1) := by decide +kernel
theorem dX8_parent_26 : decode cX8_parent 26 = .ok (.lcmp, 1) := by decide +kernel
theorem dX8_parent_27 : decode cX8_parent 27 = .ok (.ifCond .ne 18, 3) := by decide +kernel
theorem dX8_parent_30 : decode cX8_parent 30 = .ok (.aload_n 0, 1) := by decide +kernel
theorem dX8_parent_31 : decode cX8_parent 31 = .ok (.iload_n 3, 1) := by decide +kernel
theorem dX8_parent_32 : decode cX8_parent 32 = .ok (.iload 6, 2) := by decide +kernel
theorem dX8_parent_34 : decode cX8_parent 34 = .ok (.invokestatic 81, 3) := by decide +kernel
theorem dX8_parent_37 : decode cX8_parent 37 = .ok (.lstore 4, 2) := by decide +kernel
theorem dX8_parent_39 : decode cX8_parent 39 = .ok (.iinc 6 (-1), 3) := by decide +kernel
theorem dX8_parent_42 : decode cX8_parent 42 = .ok (.goto (-24), 3) := by decide +kernel
theorem dX8_parent_45 : decode cX8_parent 45 = .ok (.lload 4, 2) := by decide +kernel
theorem dX8_parent_47 : decode cX8_parent 47 = .ok (.lreturn, 1) := by decide +kernel
set_option maxRecDepth 20000 in
theorem ggX8_isHead_X8_nodeOf : GoodIn wsX8_isHead wsX8_nodeOf := goodIn_r _ [4, 5, 6, 3, 7, 8, 9, 10, 11, 12, 13, 14, 15, 16, 17, 18, 19, 20, 21, 22, 23, 24, 25, 26] (by decide +kernel) (by decide +kernel)
set_option maxRecDepth 20000 in
theorem gX8_isHead_X8_nodeOf : GoodIn wsX8_isHead (va_wsS RX8 91 yX8_nodeOf wsX8_nodeOf) := goodIn_app (goodIn_of _ (by decide +kernel)) ggX8_isHead_X8_nodeOf
set_option maxRecDepth 20000 in
theorem ggX8_isHead_X8_head : GoodIn wsX8_isHead wsX8_head := goodIn_r _ [29, 30, 31, 3, 32, 12, 13, 14, 15, 16, 17] (by decide +kernel) (by decide +kernel)
set_option maxRecDepth 20000 in
theorem gX8_isHead_X8_head : GoodIn wsX8_isHead (va_wsS RX8 88 yX8_head wsX8_head) := goodIn_app (goodIn_of _ (by decide +kernel)) ggX8_isHead_X8_head
theorem dX8_isHead_0 : decode cX8_isHead 0 = .ok (.aload_n 0, 1) := by decide +kernel
theorem dX8_isHead_1 : decode cX8_isHead 1 = .ok (.aload_n 0, 1) := by decide +kernel
theorem dX8_isHead_2 : decode cX8_isHead 2 = .ok (.iload_n 1, 1) := by decide +kernel
theorem dX8_isHead_3 : decode cX8_isHead 3 = .ok (.invokestatic 91, 3) := by decide +kernel
theorem dX8_isHead_6 : decode cX8_isHead 6 = .ok (.invokestatic 88, 3) := by decide +kernel
theorem dX8_isHead_9 : decode cX8_isHead 9 = .ok (.iload_n 1, 1) := by decide +kernel
theorem dX8_isHead_10 : decode cX8_isHead 10 = .ok (.if_icmp .ne 7, 3) := by decide +kernel
theorem dX8_isHead_13 : decode cX8_isHead 13 = .ok (.iconst 1, 1) := by decide +kernel
theorem dX8_isHead_14 : decode cX8_isHead 14 = .ok (.goto 4, 3) := by decide +kernel
theorem dX8_isHead_17 : decode cX8_isHead 17 = .ok (.iconst 0, 1) := by decide +kernel
theorem dX8_isHead_18 : decode cX8_isHead 18 = .ok (.ireturn, 1) := by decide +kernel
set_option maxRecDepth 20000 in
theorem ggX8_nodes_X8_dotsOf : GoodIn wsX8_nodes wsX8_dotsOf := goodIn_r _ [4] (by decide +kernel) (by decide +kernel)
set_option maxRecDepth 20000 in
theorem gX8_nodes_X8_dotsOf : GoodIn wsX8_nodes (va_wsS RX8 55 yX8_dotsOf wsX8_dotsOf) := goodIn_app (goodIn_of _ (by decide +kernel)) ggX8_nodes_X8_dotsOf
set_option maxRecDepth 20000 in
theorem ggX8_nodes_X8_isHead : GoodIn wsX8_nodes wsX8_isHead := goodIn_r _ [7, 8, 9, 3, 10, 11, 12, 13, 14, 15, 16, 17, 1, 2, 4, 18, 19, 20, 21, 22, 23, 24, 25, 26, 27, 28, 29, 30, 31, 32, 33, 34, 35] (by decide +kernel) (by decide +kernel)
set_option maxRecDepth 20000 in
theorem gX8_nodes_X8_isHead : GoodIn wsX8_nodes (va_wsS RX8 95 yX8_isHead wsX8_isHead) := goodIn_app (goodIn_of _ (by decide +kernel)) ggX8_nodes_X8_isHead
theorem dX8_nodes_0 : decode cX8_nodes 0 = .ok (.iconst 0, 1) := by decide +kernel
theorem dX8_nodes_1 : decode cX8_nodes 1 = .ok (.istore_n 1, 1) := by decide +kernel
theorem dX8_nodes_2 : decode cX8_nodes 2 = .ok (.iconst 0, 1) := by decide +kernel
theorem dX8_nodes_3 : decode cX8_nodes 3 = .ok (.istore_n 2, 1) := by decide +kernel
theorem dX8_nodes_4 : decode cX8_nodes 4 = .ok (.iload_n 2, 1) := by decide +kernel
theorem dX8_nodes_5 : decode cX8_nodes 5 = .ok (.aload_n 0, 1) := by decide +kernel
theorem dX8_nodes_6 : decode cX8_nodes 6 = .ok (.invokestatic 55, 3) := by decide +kernel
theorem dX8_nodes_9 : decode cX8_nodes 9 = .ok (.if_icmp .ge 25, 3) := by decide +kernel
theorem dX8_nodes_12 : decode cX8_nodes 12 = .ok (.iload_n 1, 1) := by decide +kernel
theorem dX8_nodes_13 : decode cX8_nodes 13 = .ok (.aload_n 0, 1) := by decide +kernel
theorem dX8_nodes_14 : decode cX8_nodes 14 = .ok (.iload_n 2, 1) := by decide +kernel
theorem dX8_nodes_15 : decode cX8_nodes 15 = .ok (.invokestatic 95, 3) := by decide +kernel
theorem dX8_nodes_18 : decode cX8_nodes 18 = .ok (.ifCond .eq 7, 3) := by decide +kernel
theorem dX8_nodes_21 : decode cX8_nodes 21 = .ok (.iconst 1, 1) := by decide +kernel
theorem dX8_nodes_22 : decode cX8_nodes 22 = .ok (.goto 4, 3) := by decide +kernel
theorem dX8_nodes_25 : decode cX8_nodes 25 = .ok (.iconst 0, 1) := by decide +kernel
theorem dX8_nodes_26 : decode cX8_nodes 26 = .ok (.iadd, 1) := by decide +kernel
theorem dX8_nodes_27 : decode cX8_nodes 27 = .ok (.istore_n 1, 1) := by decide +kernel
theorem dX8_nodes_28 : decode cX8_nodes 28 = .ok (.iinc 2 1, 3) := by decide +kernel
theorem dX8_nodes_31 : decode cX8_nodes 31 = .ok (.goto (-27), 3) := by decide +kernel
theorem dX8_nodes_34 : decode cX8_nodes 34 = .ok (.iload_n 1, 1) := by decide +kernel
theorem dX8_nodes_35 : decode cX8_nodes 35 = .ok (.ireturn, 1) := by decide +kernel
set_option maxRecDepth 20000 in
theorem ggX8_children_X8_dotsOf : GoodIn wsX8_children wsX8_dotsOf := goodIn_r _ [4] (by decide +kernel) (by decide +kernel)
set_option maxRecDepth 20000 in
theorem gX8_children_X8_dotsOf : GoodIn wsX8_children (va_wsS RX8 55 yX8_dotsOf wsX8_dotsOf) := goodIn_app (goodIn_of _ (by decide +kernel)) ggX8_children_X8_dotsOf
set_option maxRecDepth 20000 in
theorem ggX8_children_X8_has : GoodIn wsX8_children wsX8_has := goodIn_r _ [7] (by decide +kernel) (by decide +kernel)
set_option maxRecDepth 20000 in
theorem gX8_children_X8_has : GoodIn wsX8_children (va_wsS RX8 51 yX8_has wsX8_has) := goodIn_app (goodIn_of _ (by decide +kernel)) ggX8_children_X8_has
set_option maxRecDepth 20000 in
theorem ggX8_children_X8_isHead : GoodIn wsX8_children wsX8_isHead := goodIn_r _ [10, 11, 12, 3, 13, 14, 15, 16, 17, 18, 19, 20, 1, 2, 4, 5, 6, 7, 21, 22, 23, 24, 25, 26, 27, 28, 29, 30, 31, 32, 33, 34, 35] (by decide +kernel) (by decide +kernel)
set_option maxRecDepth 20000 in
theorem gX8_children_X8_isHead : GoodIn wsX8_children (va_wsS RX8 95 yX8_isHead wsX8_isHead) := goodIn_app (goodIn_of _ (by decide +kernel)) ggX8_children_X8_isHead
set_option maxRecDepth 20000 in
theorem ggX8_children_X8_nodeOf : GoodIn wsX8_children wsX8_nodeOf := goodIn_r _ [13, 14, 15, 3, 16, 17, 18, 19, 20, 1, 2, 4, 5, 6, 7, 21, 22, 23, 24, 25, 26, 27, 28, 29] (by decide +kernel) (by decide +kernel)
set_option maxRecDepth 20000 in
theorem gX8_children_X8_nodeOf : GoodIn wsX8_children (va_wsS RX8 91 yX8_nodeOf wsX8_nodeOf) := goodIn_app (goodIn_of _ (by decide +kernel)) ggX8_children_X8_nodeOf
set_option maxRecDepth 20000 in
theorem ggX8_children_X8_parent : GoodIn wsX8_children wsX8_parent := goodIn_r _ [38, 30, 31, 3, 32, 33, 34, 35, 1, 2, 4, 5, 6, 7, 14, 15, 16, 17, 18, 19, 20, 21, 22, 23, 24, 25, 26, 27, 28, 29] (by decide +kernel) (by decide +kernel)
set_option maxRecDepth 20000 in
theorem gX8_children_X8_parent : GoodIn wsX8_children (va_wsS RX8 99 yX8_parent wsX8_parent) := goodIn_app (goodIn_of _ (by decide +kernel)) ggX8_children_X8_parent
theorem dX8_children_0 : decode cX8_children 0 = .ok (.iconst 0, 1) := by decide +kernel
theorem dX8_children_1 : decode cX8_children 1 = .ok (.istore_n 3, 1) := by decide +kernel
theorem dX8_children_2 : decode cX8_children 2 = .ok (.iconst 0, 1) := by decide +kernel
theorem dX8_children_3 : decode cX8_children 3 = .ok (.istore 4, 2) := by decide +kernel
theorem dX8_children_5 : decode cX8_children 5 = .ok (.iload 4, 2) := by decide +kernel
theorem dX8_children_7 : decode cX8_children 7 = .ok (.aload_n 0, 1) := by decide +kernel
theorem dX8_children_8 : decode cX8_children 8 = .ok (.invokestatic 55, 3) := by decide +kernel
theorem dX8_children_11 : decode cX8_children 11 = .ok (.if_icmp .ge 61, 3) := by decide +kernel
theorem dX8_children_14 : decode cX8_children 14 = .ok (.lload_n 1, 1) := by decide +kernel
theorem dX8_children_15 : decode cX8_children 15 = .ok (.iload 4, 2) := by decide +kernel
theorem dX8_children_17 : decode cX8_children 17 = .ok (.invokestatic 51, 3) := by decide +kernel
theorem dX8_children_20 : decode cX8_children 20 = .ok (.ifCond .eq 46, 3) := by decide +kernel
theorem dX8_children_23 : decode cX8_children 23 = .ok (.aload_n 0, 1) := by decide +kernel
theorem dX8_children_24 : decode cX8_children 24 = .ok (.iload 4, 2) := by decide +kernel
theorem dX8_children_26 : decode cX8_children 26 = .ok (.invokestatic 95, 3) := by decide +kernel
theorem dX8_children_29 : decode cX8_children 29 = .ok (.ifCond .eq 37, 3) := by decide +kernel
theorem dX8_children_32 : decode cX8_children 32 = .ok (.aload_n 0, 1) := by decide +kernel
theorem dX8_children_33 : decode cX8_children 33 = .ok (.iload 4, 2) := by decide +kernel
theorem dX8_children_35 : decode cX8_children 35 = .ok (.invokestatic 91, 3) := by decide +kernel
theorem dX8_children_38 : decode cX8_children 38 = .ok (.lstore 5, 2) := by decide +kernel
theorem dX8_children_40 : decode cX8_children 40 = .ok (.iload_n 3, 1) := by decide +kernel
theorem dX8_children_41 : decode cX8_children 41 = .ok (.lload 5, 2) := by decide +kernel
theorem dX8_children_43 : decode cX8_children 43 = .ok (.lload_n 1, 1) := by decide +kernel
theorem dX8_children_44 : decode cX8_children 44 = .ok (.lcmp, 1) := by decide +kernel
theorem dX8_children_45 : decode cX8_children 45 = .ok (.ifCond .eq 18, 3) := by decide +kernel
theorem dX8_children_48 : decode cX8_children 48 = .ok (.aload_n 0, 1) := by decide +kernel
theorem dX8_children_49 : decode cX8_children 49 = .ok (.lload 5, 2) := by decide +kernel
theorem dX8_children_51 : decode cX8_children 51 = .ok (.invokestatic 99, 3) := by decide +kernel
theorem dX8_children_54 : decode cX8_children 54 = .ok (.lload_n 1, 1) := by decide +kernel
theorem dX8_children_55 : decode cX8_children 55 = .ok (.lcmp, 1) := by decide +kernel
theorem dX8_children_56 : decode cX8_children 56 = .ok (.ifCond .ne 7, 3) := by decide +kernel
theorem dX8_children_59 : decode cX8_children 59 = .ok (.iconst 1, 1) := by decide +kernel
theorem dX8_children_60 : decode cX8_children 60 = .ok (.goto 4, 3) := by decide +kernel
theorem dX8_children_63 : decode cX8_children 63 = .ok (.iconst 0, 1) := by decide +kernel
theorem dX8_children_64 : decode cX8_children 64 = .ok (.iadd, 1) := by decide +kernel
theorem dX8_children_65 : decode cX8_children 65 = .ok (.istore_n 3, 1) := by decide +kernel
theorem dX8_children_66 : decode cX8_children 66 = .ok (.iinc 4 1, 3) := by decide +kernel
theorem dX8_children_69 : decode cX8_children 69 = .ok (.goto (-64), 3) := by decide +kernel
theorem dX8_children_72 : decode cX8_children 72 = .ok (.iload_n 3, 1) := by decide +kernel
theorem dX8_children_73 : decode cX8_children 73 = .ok (.ireturn, 1) := by decide +kernel
set_option maxRecDepth 20000 in
theorem ggX8_depth_X8_parent : GoodIn wsX8_depth wsX8_parent := goodIn_r _ [4, 5, 6, 3, 7, 8, 9, 10, 11, 12, 13, 14, 15, 16, 17, 18, 19, 20, 21, 22, 23, 24, 25, 26, 27, 28, 29, 30, 31, 32] (by decide +kernel) (by decide +kernel)
set_option maxRecDepth 20000 in
theorem gX8_depth_X8_parent : GoodIn wsX8_depth (va_wsS RX8 99 yX8_parent wsX8_parent) := goodIn_app (goodIn_of _ (by decide +kernel)) ggX8_depth_X8_parent
theorem dX8_depth_0 : decode cX8_depth 0 = .ok (.iconst 0, 1) := by decide +kernel
theorem dX8_depth_1 : decode cX8_depth 1 = .ok (.istore_n 3, 1) := by decide +kernel
theorem dX8_depth_2 : decode cX8_depth 2 = .ok (.lload_n 1, 1) := by decide +kernel
theorem dX8_depth_3 : decode cX8_depth 3 = .ok (.lstore 4, 2) := by decide +kernel
theorem dX8_depth_5 : decode cX8_depth 5 = .ok (.aload_n 0, 1) := by decide +kernel
theorem dX8_depth_6 : decode cX8_depth 6 = .ok (.lload 4, 2) := by decide +kernel
theorem dX8_depth_8 : decode cX8_depth 8 = .ok (.invokestatic 99, 3) := by decide +kernel
theorem dX8_depth_11 : decode cX8_depth 11 = .ok (.lstore 6, 2) := by decide +kernel
theorem dX8_depth_13 : decode cX8_depth 13 = .ok (.lload 6, 2) := by decide +kernel
theorem dX8_depth_15 : decode cX8_depth 15 = .ok (.lload 4, 2) := by decide +kernel
theorem dX8_depth_17 : decode cX8_depth 17 = .ok (.lcmp, 1) := by decide +kernel
theorem dX8_depth_18 : decode cX8_depth 18 = .ok (.ifCond .eq 21, 3) := by decide +kernel
theorem dX8_depth_21 : decode cX8_depth 21 = .ok (.iinc 3 1, 3) := by decide +kernel
theorem dX8_depth_24 : decode cX8_depth 24 = .ok (.lload 6, 2) := by decide +kernel
theorem dX8_depth_26 : decode cX8_depth 26 = .ok (.lstore 4, 2) := by decide +kernel
theorem dX8_depth_28 : decode cX8_depth 28 = .ok (.aload_n 0, 1) := by decide +kernel
theorem dX8_depth_29 : decode cX8_depth 29 = .ok (.lload 4, 2) := by decide +kernel
theorem dX8_depth_31 : decode cX8_depth 31 = .ok (.invokestatic 99, 3) := by decide +kernel
theorem dX8_depth_34 : decode cX8_depth 34 = .ok (.lstore 6, 2) := by decide +kernel
theorem dX8_depth_36 : decode cX8_depth 36 = .ok (.goto (-23), 3) := by decide +kernel
theorem dX8_depth_39 : decode cX8_depth 39 = .ok (.iload_n 3, 1) := by decide +kernel
theorem dX8_depth_40 : decode cX8_depth 40 = .ok (.ireturn, 1) := by decide +kernel
set_option maxRecDepth 20000 in
theorem ggX8_light_X8_dotsOf : GoodIn wsX8_light wsX8_dotsOf := goodIn_r _ [4] (by decide +kernel) (by decide +kernel)
set_option maxRecDepth 20000 in
theorem gX8_light_X8_dotsOf : GoodIn wsX8_light (va_wsS RX8 55 yX8_dotsOf wsX8_dotsOf) := goodIn_app (goodIn_of _ (by decide +kernel)) ggX8_light_X8_dotsOf
set_option maxRecDepth 20000 in
theorem ggX8_light_X8_has : GoodIn wsX8_light wsX8_has := goodIn_r _ [7] (by decide +kernel) (by decide +kernel)
set_option maxRecDepth 20000 in
theorem gX8_light_X8_has : GoodIn wsX8_light (va_wsS RX8 51 yX8_has wsX8_has) := goodIn_app (goodIn_of _ (by decide +kernel)) ggX8_light_X8_has
theorem dX8_light_0 : decode cX8_light 0 = .ok (.iconst 0, 1) := by decide +kernel
theorem dX8_light_1 : decode cX8_light 1 = .ok (.istore_n 3, 1) := by decide +kernel
theorem dX8_light_2 : decode cX8_light 2 = .ok (.iconst 0, 1) := by decide +kernel
theorem dX8_light_3 : decode cX8_light 3 = .ok (.istore 4, 2) := by decide +kernel
theorem dX8_light_5 : decode cX8_light 5 = .ok (.iload 4, 2) := by decide +kernel
theorem dX8_light_7 : decode cX8_light 7 = .ok (.aload_n 0, 1) := by decide +kernel
theorem dX8_light_8 : decode cX8_light 8 = .ok (.invokestatic 55, 3) := by decide +kernel
theorem dX8_light_11 : decode cX8_light 11 = .ok (.if_icmp .ge 31, 3) := by decide +kernel
theorem dX8_light_14 : decode cX8_light 14 = .ok (.iload_n 3, 1) := by decide +kernel
theorem dX8_light_15 : decode cX8_light 15 = .ok (.lload_n 1, 1) := by decide +kernel
theorem dX8_light_16 : decode cX8_light 16 = .ok (.iload 4, 2) := by decide +kernel
theorem dX8_light_18 : decode cX8_light 18 = .ok (.invokestatic 51, 3) := by decide +kernel
theorem dX8_light_21 : decode cX8_light 21 = .ok (.ifCond .eq 12, 3) := by decide +kernel
theorem dX8_light_24 : decode cX8_light 24 = .ok (.aload_n 0, 1) := by decide +kernel
theorem dX8_light_25 : decode cX8_light 25 = .ok (.iconst 3, 1) := by decide +kernel
theorem dX8_light_26 : decode cX8_light 26 = .ok (.iload 4, 2) := by decide +kernel
theorem dX8_light_28 : decode cX8_light 28 = .ok (.iadd, 1) := by decide +kernel
theorem dX8_light_29 : decode cX8_light 29 = .ok (.iaload, 1) := by decide +kernel
theorem dX8_light_30 : decode cX8_light 30 = .ok (.goto 4, 3) := by decide +kernel
theorem dX8_light_33 : decode cX8_light 33 = .ok (.iconst 0, 1) := by decide +kernel
theorem dX8_light_34 : decode cX8_light 34 = .ok (.iadd, 1) := by decide +kernel
theorem dX8_light_35 : decode cX8_light 35 = .ok (.istore_n 3, 1) := by decide +kernel
theorem dX8_light_36 : decode cX8_light 36 = .ok (.iinc 4 1, 3) := by decide +kernel
theorem dX8_light_39 : decode cX8_light 39 = .ok (.goto (-34), 3) := by decide +kernel
theorem dX8_light_42 : decode cX8_light 42 = .ok (.iload_n 3, 1) := by decide +kernel
theorem dX8_light_43 : decode cX8_light 43 = .ok (.ireturn, 1) := by decide +kernel
set_option maxRecDepth 20000 in
theorem ggX8_box_X8_dotsOf : GoodIn wsX8_box wsX8_dotsOf := goodIn_r _ [4] (by decide +kernel) (by decide +kernel)
set_option maxRecDepth 20000 in
theorem gX8_box_X8_dotsOf : GoodIn wsX8_box (va_wsS RX8 55 yX8_dotsOf wsX8_dotsOf) := goodIn_app (goodIn_of _ (by decide +kernel)) ggX8_box_X8_dotsOf
set_option maxRecDepth 20000 in
theorem ggX8_box_X8_has : GoodIn wsX8_box wsX8_has := goodIn_r _ [7] (by decide +kernel) (by decide +kernel)
set_option maxRecDepth 20000 in
theorem gX8_box_X8_has : GoodIn wsX8_box (va_wsS RX8 51 yX8_has wsX8_has) := goodIn_app (goodIn_of _ (by decide +kernel)) ggX8_box_X8_has
theorem dX8_box_0 : decode cX8_box 0 = .ok (.bipush 6, 2) := by decide +kernel
theorem dX8_box_2 : decode cX8_box 2 = .ok (.istore 4, 2) := by decide +kernel
theorem dX8_box_4 : decode cX8_box 4 = .ok (.iconst (-1), 1) := by decide +kernel
theorem dX8_box_5 : decode cX8_box 5 = .ok (.istore 5, 2) := by decide +kernel
theorem dX8_box_7 : decode cX8_box 7 = .ok (.iconst 0, 1) := by decide +kernel
theorem dX8_box_8 : decode cX8_box 8 = .ok (.istore 6, 2) := by decide +kernel
theorem dX8_box_10 : decode cX8_box 10 = .ok (.iload 6, 2) := by decide +kernel
theorem dX8_box_12 : decode cX8_box 12 = .ok (.aload_n 0, 1) := by decide +kernel
theorem dX8_box_13 : decode cX8_box 13 = .ok (.invokestatic 55, 3) := by decide +kernel
theorem dX8_box_16 : decode cX8_box 16 = .ok (.if_icmp .ge 71, 3) := by decide +kernel
theorem dX8_box_19 : decode cX8_box 19 = .ok (.lload_n 1, 1) := by decide +kernel
theorem dX8_box_20 : decode cX8_box 20 = .ok (.iload 6, 2) := by decide +kernel
theorem dX8_box_22 : decode cX8_box 22 = .ok (.invokestatic 51, 3) := by decide +kernel
theorem dX8_box_25 : decode cX8_box 25 = .ok (.ifCond .eq 56, 3) := by decide +kernel
theorem dX8_box_28 : decode cX8_box 28 = .ok (.iload_n 3, 1) := by decide +kernel
theorem dX8_box_29 : decode cX8_box 29 = .ok (.ifCond .eq 12, 3) := by decide +kernel
theorem dX8_box_32 : decode cX8_box 32 = .ok (.iload 6, 2) := by decide +kernel
theorem dX8_box_34 : decode cX8_box 34 = .ok (.aload_n 0, 1) := by decide +kernel
theorem dX8_box_35 : decode cX8_box 35 = .ok (.iconst 1, 1) := by decide +kernel
theorem dX8_box_36 : decode cX8_box 36 = .ok (.iaload, 1) := by decide +kernel
theorem dX8_box_37 : decode cX8_box 37 = .ok (.irem, 1) := by decide +kernel
theorem dX8_box_38 : decode cX8_box 38 = .ok (.goto 9, 3) := by decide +kernel
theorem dX8_box_41 : decode cX8_box 41 = .ok (.iload 6, 2) := by decide +kernel
theorem dX8_box_43 : decode cX8_box 43 = .ok (.aload_n 0, 1) := by decide +kernel
theorem dX8_box_44 : decode cX8_box 44 = .ok (.iconst 1, 1) := by decide +kernel
theorem dX8_box_45 : decode cX8_box 45 = .ok (.iaload, 1) := by decide +kernel
theorem dX8_box_46 : decode cX8_box 46 = .ok (.idiv, 1) := by decide +kernel
theorem dX8_box_47 : decode cX8_box 47 = .ok (.istore 7, 2) := by decide +kernel
theorem dX8_box_49 : decode cX8_box 49 = .ok (.iload 7, 2) := by decide +kernel
theorem dX8_box_51 : decode cX8_box 51 = .ok (.iload 4, 2) := by decide +kernel
theorem dX8_box_53 : decode cX8_box 53 = .ok (.if_icmp .ge 8, 3) := by decide +kernel
theorem dX8_box_56 : decode cX8_box 56 = .ok (.iload 7, 2) := by decide +kernel
theorem dX8_box_58 : decode cX8_box 58 = .ok (.goto 5, 3) := by decide +kernel
theorem dX8_box_61 : decode cX8_box 61 = .ok (.iload 4, 2) := by decide +kernel
theorem dX8_box_63 : decode cX8_box 63 = .ok (.istore 4, 2) := by decide +kernel
theorem dX8_box_65 : decode cX8_box 65 = .ok (.iload 7, 2) := by decide +kernel
theorem dX8_box_67 : decode cX8_box 67 = .ok (.iload 5, 2) := by decide +kernel
theorem dX8_box_69 : decode cX8_box 69 = .ok (.if_icmp .le 8, 3) := by decide +kernel
theorem dX8_box_72 : decode cX8_box 72 = .ok (.iload 7, 2) := by decide +kernel
theorem dX8_box_74 : decode cX8_box 74 = .ok (.goto 5, 3) := by decide +kernel
theorem dX8_box_77 : decode cX8_box 77 = .ok (.iload 5, 2) := by decide +kernel
theorem dX8_box_79 : decode cX8_box 79 = .ok (.istore 5, 2) := by decide +kernel
theorem dX8_box_81 : decode cX8_box 81 = .ok (.iinc 6 1, 3) := by decide +kernel
theorem dX8_box_84 : decode cX8_box 84 = .ok (.goto (-74), 3) := by decide +kernel
theorem dX8_box_87 : decode cX8_box 87 = .ok (.iload 5, 2) := by decide +kernel
theorem dX8_box_89 : decode cX8_box 89 = .ok (.iload 4, 2) := by decide +kernel
theorem dX8_box_91 : decode cX8_box 91 = .ok (.isub, 1) := by decide +kernel
theorem dX8_box_92 : decode cX8_box 92 = .ok (.iconst 1, 1) := by decide +kernel
theorem dX8_box_93 : decode cX8_box 93 = .ok (.iadd, 1) := by decide +kernel
theorem dX8_box_94 : decode cX8_box 94 = .ok (.ireturn, 1) := by decide +kernel
set_option maxRecDepth 20000 in
theorem ggX8_rise_X8_level : GoodIn wsX8_rise wsX8_level := goodIn_r _ [4, 5, 6, 3, 7, 8, 9, 10] (by decide +kernel) (by decide +kernel)
set_option maxRecDepth 20000 in
theorem gX8_rise_X8_level : GoodIn wsX8_rise (va_wsS RX8 84 yX8_level wsX8_level) := goodIn_app (goodIn_of _ (by decide +kernel)) ggX8_rise_X8_level
set_option maxRecDepth 20000 in
theorem ggX8_rise_X8_brightest : GoodIn wsX8_rise wsX8_brightest := goodIn_r _ [13, 5, 6, 3, 7, 8, 9, 10] (by decide +kernel) (by decide +kernel)
set_option maxRecDepth 20000 in
theorem gX8_rise_X8_brightest : GoodIn wsX8_rise (va_wsS RX8 103 yX8_brightest wsX8_brightest) := goodIn_app (goodIn_of _ (by decide +kernel)) ggX8_rise_X8_brightest
set_option maxRecDepth 20000 in
theorem ggX8_rise_X8_head : GoodIn wsX8_rise wsX8_head := goodIn_r _ [16, 1, 2, 3, 4, 5, 6, 7, 8, 9, 10] (by decide +kernel) (by decide +kernel)
set_option maxRecDepth 20000 in
theorem gX8_rise_X8_head : GoodIn wsX8_rise (va_wsS RX8 88 yX8_head wsX8_head) := goodIn_app (goodIn_of _ (by decide +kernel)) ggX8_rise_X8_head
set_option maxRecDepth 20000 in
theorem ggX8_rise_X8_part : GoodIn wsX8_rise wsX8_part := goodIn_r _ [19, 20, 21, 22, 3, 23, 5, 6, 7, 8, 9, 10, 24, 25, 26, 27, 28, 29, 30, 31, 32] (by decide +kernel) (by decide +kernel)
set_option maxRecDepth 20000 in
theorem gX8_rise_X8_part : GoodIn wsX8_rise (va_wsS RX8 81 yX8_part wsX8_part) := goodIn_app (goodIn_of _ (by decide +kernel)) ggX8_rise_X8_part
theorem dX8_rise_0 : decode cX8_rise 0 = .ok (.aload_n 0, 1) := by decide +kernel
theorem dX8_rise_1 : decode cX8_rise 1 = .ok (.lload_n 1, 1) := by decide +kernel
theorem dX8_rise_2 : decode cX8_rise 2 = .ok (.invokestatic 84, 3) := by decide +kernel
theorem dX8_rise_5 : decode cX8_rise 5 = .ok (.istore_n 3, 1) := by decide +kernel
theorem dX8_rise_6 : decode cX8_rise 6 = .ok (.aload_n 0, 1) := by decide +kernel
theorem dX8_rise_7 : decode cX8_rise 7 = .ok (.lload_n 1, 1) := by decide +kernel
theorem dX8_rise_8 : decode cX8_rise 8 = .ok (.invokestatic 103, 3) := by decide +kernel
theorem dX8_rise_11 : decode cX8_rise 11 = .ok (.istore 4, 2) := by decide +kernel
theorem dX8_rise_13 : decode cX8_rise 13 = .ok (.aload_n 0, 1) := by decide +kernel
theorem dX8_rise_14 : decode cX8_rise 14 = .ok (.lload_n 1, 1) := by decide +kernel
theorem dX8_rise_15 : decode cX8_rise 15 = .ok (.invokestatic 88, 3) := by decide +kernel
theorem dX8_rise_18 : decode cX8_rise 18 = .ok (.istore 5, 2) := by decide +kernel
theorem dX8_rise_20 : decode cX8_rise 20 = .ok (.iload_n 3, 1) := by decide +kernel
theorem dX8_rise_21 : decode cX8_rise 21 = .ok (.iconst 1, 1) := by decide +kernel
theorem dX8_rise_22 : decode cX8_rise 22 = .ok (.isub, 1) := by decide +kernel
theorem dX8_rise_23 : decode cX8_rise 23 = .ok (.istore 6, 2) := by decide +kernel
theorem dX8_rise_25 : decode cX8_rise 25 = .ok (.iload 6, 2) := by decide +kernel
theorem dX8_rise_27 : decode cX8_rise 27 = .ok (.ifCond .lt 31, 3) := by decide +kernel
theorem dX8_rise_30 : decode cX8_rise 30 = .ok (.aload_n 0, 1) := by decide +kernel
theorem dX8_rise_31 : decode cX8_rise 31 = .ok (.aload_n 0, 1) := by decide +kernel
theorem dX8_rise_32 : decode cX8_rise 32 = .ok (.iload 5, 2) := by decide +kernel
theorem dX8_rise_34 : decode cX8_rise 34 = .ok (.iload 6, 2) := by decide +kernel
theorem dX8_rise_36 : decode cX8_rise 36 = .ok (.invokestatic 81, 3) := by decide +kernel
theorem dX8_rise_39 : decode cX8_rise 39 = .ok (.invokestatic 103, 3) := by decide +kernel
theorem dX8_rise_42 : decode cX8_rise 42 = .ok (.iload 4, 2) := by decide +kernel
theorem dX8_rise_44 : decode cX8_rise 44 = .ok (.if_icmp .le 8, 3) := by decide +kernel
theorem dX8_rise_47 : decode cX8_rise 47 = .ok (.iload_n 3, 1) := by decide +kernel
theorem dX8_rise_48 : decode cX8_rise 48 = .ok (.iload 6, 2) := by decide +kernel
theorem dX8_rise_50 : decode cX8_rise 50 = .ok (.isub, 1) := by decide +kernel
theorem dX8_rise_51 : decode cX8_rise 51 = .ok (.ireturn, 1) := by decide +kernel
theorem dX8_rise_52 : decode cX8_rise 52 = .ok (.iinc 6 (-1), 3) := by decide +kernel
theorem dX8_rise_55 : decode cX8_rise 55 = .ok (.goto (-30), 3) := by decide +kernel
theorem dX8_rise_58 : decode cX8_rise 58 = .ok (.bipush (-9), 2) := by decide +kernel
theorem dX8_rise_60 : decode cX8_rise 60 = .ok (.ireturn, 1) := by decide +kernel
set_option maxRecDepth 20000 in
theorem ggX8_write_X8_in : GoodIn wsX8_write wsX8_in := goodIn_r _ [8] (by decide +kernel) (by decide +kernel)
set_option maxRecDepth 20000 in
theorem gX8_write_X8_in : GoodIn wsX8_write (va_wsS RX8 59 yX8_in wsX8_in) := goodIn_app (goodIn_of _ (by decide +kernel)) ggX8_write_X8_in
theorem dX8_write_0 : decode cX8_write 0 = .ok (.aload_n 0, 1) := by decide +kernel
theorem dX8_write_1 : decode cX8_write 1 = .ok (.iconst 0, 1) := by decide +kernel
theorem dX8_write_2 : decode cX8_write 2 = .ok (.putfield 47, 3) := by decide +kernel
theorem dX8_write_5 : decode cX8_write 5 = .ok (.iload_n 1, 1) := by decide +kernel
theorem dX8_write_6 : decode cX8_write 6 = .ok (.i2l, 1) := by decide +kernel
theorem dX8_write_7 : decode cX8_write 7 = .ok (.lconst 0, 1) := by decide +kernel
theorem dX8_write_8 : decode cX8_write 8 = .ok (.ldc2_w 106, 3) := by decide +kernel
theorem dX8_write_11 : decode cX8_write 11 = .ok (.invokestatic 59, 3) := by decide +kernel
theorem dX8_write_14 : decode cX8_write 14 = .ok (.ifCond .ne 6, 3) := by decide +kernel
theorem dX8_write_17 : decode cX8_write 17 = .ok (.bipush (-2), 2) := by decide +kernel
theorem dX8_write_19 : decode cX8_write 19 = .ok (.ireturn, 1) := by decide +kernel
theorem dX8_write_20 : decode cX8_write 20 = .ok (.aload_n 0, 1) := by decide +kernel
theorem dX8_write_21 : decode cX8_write 21 = .ok (.getfield 108, 3) := by decide +kernel
theorem dX8_write_24 : decode cX8_write 24 = .ok (.bipush 40, 2) := by decide +kernel
theorem dX8_write_26 : decode cX8_write 26 = .ok (.if_icmp .ne 6, 3) := by decide +kernel
theorem dX8_write_29 : decode cX8_write 29 = .ok (.bipush (-4), 2) := by decide +kernel
theorem dX8_write_31 : decode cX8_write 31 = .ok (.ireturn, 1) := by decide +kernel
theorem dX8_write_32 : decode cX8_write 32 = .ok (.aload_n 0, 1) := by decide +kernel
theorem dX8_write_33 : decode cX8_write 33 = .ok (.getfield 7, 3) := by decide +kernel
theorem dX8_write_36 : decode cX8_write 36 = .ok (.aload_n 0, 1) := by decide +kernel
theorem dX8_write_37 : decode cX8_write 37 = .ok (.getfield 108, 3) := by decide +kernel
theorem dX8_write_40 : decode cX8_write 40 = .ok (.iload_n 1, 1) := by decide +kernel
theorem dX8_write_41 : decode cX8_write 41 = .ok (.iastore, 1) := by decide +kernel
theorem dX8_write_42 : decode cX8_write 42 = .ok (.aload_n 0, 1) := by decide +kernel
theorem dX8_write_43 : decode cX8_write 43 = .ok (.dup, 1) := by decide +kernel
theorem dX8_write_44 : decode cX8_write 44 = .ok (.getfield 108, 3) := by decide +kernel
theorem dX8_write_47 : decode cX8_write 47 = .ok (.iconst 1, 1) := by decide +kernel
theorem dX8_write_48 : decode cX8_write 48 = .ok (.iadd, 1) := by decide +kernel
theorem dX8_write_49 : decode cX8_write 49 = .ok (.putfield 108, 3) := by decide +kernel
theorem dX8_write_52 : decode cX8_write 52 = .ok (.aload_n 0, 1) := by decide +kernel
theorem dX8_write_53 : decode cX8_write 53 = .ok (.getfield 108, 3) := by decide +kernel
theorem dX8_write_56 : decode cX8_write 56 = .ok (.ireturn, 1) := by decide +kernel
theorem dX8_wipe_0 : decode cX8_wipe 0 = .ok (.aload_n 0, 1) := by decide +kernel
theorem dX8_wipe_1 : decode cX8_wipe 1 = .ok (.iconst 0, 1) := by decide +kernel
theorem dX8_wipe_2 : decode cX8_wipe 2 = .ok (.putfield 47, 3) := by decide +kernel
theorem dX8_wipe_5 : decode cX8_wipe 5 = .ok (.aload_n 0, 1) := by decide +kernel
theorem dX8_wipe_6 : decode cX8_wipe 6 = .ok (.getfield 108, 3) := by decide +kernel
theorem dX8_wipe_9 : decode cX8_wipe 9 = .ok (.istore_n 1, 1) := by decide +kernel
theorem dX8_wipe_10 : decode cX8_wipe 10 = .ok (.aload_n 0, 1) := by decide +kernel
theorem dX8_wipe_11 : decode cX8_wipe 11 = .ok (.iconst 0, 1) := by decide +kernel
theorem dX8_wipe_12 : decode cX8_wipe 12 = .ok (.putfield 108, 3) := by decide +kernel
theorem dX8_wipe_15 : decode cX8_wipe 15 = .ok (.iload_n 1, 1) := by decide +kernel
theorem dX8_wipe_16 : decode cX8_wipe 16 = .ok (.ireturn, 1) := by decide +kernel
theorem dX8_letterAt_0 : decode cX8_letterAt 0 = .ok (.iload_n 1, 1) := by decide +kernel
theorem dX8_letterAt_1 : decode cX8_letterAt 1 = .ok (.aload_n 0, 1) := by decide +kernel
theorem dX8_letterAt_2 : decode cX8_letterAt 2 = .ok (.getfield 108, 3) := by decide +kernel
theorem dX8_letterAt_5 : decode cX8_letterAt 5 = .ok (.if_icmp .ge 12, 3) := by decide +kernel
theorem dX8_letterAt_8 : decode cX8_letterAt 8 = .ok (.aload_n 0, 1) := by decide +kernel
theorem dX8_letterAt_9 : decode cX8_letterAt 9 = .ok (.getfield 7, 3) := by decide +kernel
theorem dX8_letterAt_12 : decode cX8_letterAt 12 = .ok (.iload_n 1, 1) := by decide +kernel
theorem dX8_letterAt_13 : decode cX8_letterAt 13 = .ok (.iaload, 1) := by decide +kernel
theorem dX8_letterAt_14 : decode cX8_letterAt 14 = .ok (.goto 5, 3) := by decide +kernel
theorem dX8_letterAt_17 : decode cX8_letterAt 17 = .ok (.bipush (-9), 2) := by decide +kernel
theorem dX8_letterAt_19 : decode cX8_letterAt 19 = .ok (.ireturn, 1) := by decide +kernel
set_option maxRecDepth 20000 in
theorem ggX8_readPicture_X8_letterAt : GoodIn wsX8_readPicture wsX8_letterAt := goodIn_r _ [10, 5, 2, 17, 18, 19, 20, 21, 22, 23, 24, 25, 26, 27, 28, 29, 30, 31, 32, 33, 34, 35, 36, 37] (by decide +kernel) (by decide +kernel)
set_option maxRecDepth 20000 in
theorem gX8_readPicture_X8_letterAt : GoodIn wsX8_readPicture (wsV RX8 111 RX8 yX8_letterAt wsX8_letterAt) := goodIn_app (goodIn_of _ (by decide +kernel)) ggX8_readPicture_X8_letterAt
set_option maxRecDepth 20000 in
theorem ggX8_readPicture_X8_in : GoodIn wsX8_readPicture wsX8_in := goodIn_r _ [13] (by decide +kernel) (by decide +kernel)
set_option maxRecDepth 20000 in
theorem gX8_readPicture_X8_in : GoodIn wsX8_readPicture (va_wsS RX8 59 yX8_in wsX8_in) := goodIn_app (goodIn_of _ (by decide +kernel)) ggX8_readPicture_X8_in
set_option maxRecDepth 20000 in
theorem ggX8_readPicture_X8_dotsOf : GoodIn wsX8_readPicture wsX8_dotsOf := goodIn_r _ [16] (by decide +kernel) (by decide +kernel)
set_option maxRecDepth 20000 in
theorem gX8_readPicture_X8_dotsOf : GoodIn wsX8_readPicture (va_wsS RX8 55 yX8_dotsOf wsX8_dotsOf) := goodIn_app (goodIn_of _ (by decide +kernel)) ggX8_readPicture_X8_dotsOf
theorem dX8_readPicture_0 : decode cX8_readPicture 0 = .ok (.iconst 0, 1) := by decide +kernel
theorem dX8_readPicture_1 : decode cX8_readPicture 1 = .ok (.istore_n 1, 1) := by decide +kernel
theorem dX8_readPicture_2 : decode cX8_readPicture 2 = .ok (.iload_n 1, 1) := by decide +kernel
theorem dX8_readPicture_3 : decode cX8_readPicture 3 = .ok (.bipush 39, 2) := by decide +kernel
theorem dX8_readPicture_5 : decode cX8_readPicture 5 = .ok (.if_icmp .ge 16, 3) := by decide +kernel
theorem dX8_readPicture_8 : decode cX8_readPicture 8 = .ok (.aload_n 0, 1) := by decide +kernel
theorem dX8_readPicture_9 : decode cX8_readPicture 9 = .ok (.getfield 13, 3) := by decide +kernel
theorem dX8_readPicture_12 : decode cX8_readPicture 12 = .ok (.iload_n 1, 1) := by decide +kernel
theorem dX8_readPicture_13 : decode cX8_readPicture 13 = .ok (.iconst 0, 1) := by decide +kernel
theorem dX8_readPicture_14 : decode cX8_readPicture 14 = .ok (.iastore, 1) := by decide +kernel
theorem dX8_readPicture_15 : decode cX8_readPicture 15 = .ok (.iinc 1 1, 3) := by decide +kernel
theorem dX8_readPicture_18 : decode cX8_readPicture 18 = .ok (.goto (-16), 3) := by decide +kernel
theorem dX8_readPicture_21 : decode cX8_readPicture 21 = .ok (.aload_n 0, 1) := by decide +kernel
theorem dX8_readPicture_22 : decode cX8_readPicture 22 = .ok (.iconst 0, 1) := by decide +kernel
theorem dX8_readPicture_23 : decode cX8_readPicture 23 = .ok (.invokevirtual 111, 3) := by decide +kernel
theorem dX8_readPicture_26 : decode cX8_readPicture 26 = .ok (.bipush 80, 2) := by decide +kernel
theorem dX8_readPicture_28 : decode cX8_readPicture 28 = .ok (.if_icmp .eq 5, 3) := by decide +kernel
theorem dX8_readPicture_31 : decode cX8_readPicture 31 = .ok (.iconst 0, 1) := by decide +kernel
theorem dX8_readPicture_32 : decode cX8_readPicture 32 = .ok (.ireturn, 1) := by decide +kernel
theorem dX8_readPicture_33 : decode cX8_readPicture 33 = .ok (.aload_n 0, 1) := by decide +kernel
theorem dX8_readPicture_34 : decode cX8_readPicture 34 = .ok (.iconst 1, 1) := by decide +kernel
theorem dX8_readPicture_35 : decode cX8_readPicture 35 = .ok (.invokevirtual 111, 3) := by decide +kernel
theorem dX8_readPicture_38 : decode cX8_readPicture 38 = .ok (.bipush 52, 2) := by decide +kernel
theorem dX8_readPicture_40 : decode cX8_readPicture 40 = .ok (.if_icmp .eq 15, 3) := by decide +kernel
theorem dX8_readPicture_43 : decode cX8_readPicture 43 = .ok (.aload_n 0, 1) := by decide +kernel
theorem dX8_readPicture_44 : decode cX8_readPicture 44 = .ok (.iconst 1, 1) := by decide +kernel
theorem dX8_readPicture_45 : decode cX8_readPicture 45 = .ok (.invokevirtual 111, 3) := by decide +kernel
theorem dX8_readPicture_48 : decode cX8_readPicture 48 = .ok (.bipush 56, 2) := by decide +kernel
theorem dX8_readPicture_50 : decode cX8_readPicture 50 = .ok (.if_icmp .eq 5, 3) := by decide +kernel
theorem dX8_readPicture_53 : decode cX8_readPicture 53 = .ok (.iconst 1, 1) := by decide +kernel
theorem dX8_readPicture_54 : decode cX8_readPicture 54 = .ok (.ireturn, 1) := by decide +kernel
theorem dX8_readPicture_55 : decode cX8_readPicture 55 = .ok (.aload_n 0, 1) := by decide +kernel
theorem dX8_readPicture_56 : decode cX8_readPicture 56 = .ok (.getfield 13, 3) := by decide +kernel
theorem dX8_readPicture_59 : decode cX8_readPicture 59 = .ok (.iconst 0, 1) := by decide +kernel
theorem dX8_readPicture_60 : decode cX8_readPicture 60 = .ok (.aload_n 0, 1) := by decide +kernel
theorem dX8_readPicture_61 : decode cX8_readPicture 61 = .ok (.getfield 7, 3) := by decide +kernel
theorem dX8_readPicture_64 : decode cX8_readPicture 64 = .ok (.iconst 1, 1) := by decide +kernel
theorem dX8_readPicture_65 : decode cX8_readPicture 65 = .ok (.iaload, 1) := by decide +kernel
theorem dX8_readPicture_66 : decode cX8_readPicture 66 = .ok (.bipush 48, 2) := by decide +kernel
theorem dX8_readPicture_68 : decode cX8_readPicture 68 = .ok (.isub, 1) := by decide +kernel
theorem dX8_readPicture_69 : decode cX8_readPicture 69 = .ok (.iastore, 1) := by decide +kernel
theorem dX8_readPicture_70 : decode cX8_readPicture 70 = .ok (.iconst 1, 1) := by decide +kernel
theorem dX8_readPicture_71 : decode cX8_readPicture 71 = .ok (.istore_n 1, 1) := by decide +kernel
theorem dX8_readPicture_72 : decode cX8_readPicture 72 = .ok (.iload_n 1, 1) := by decide +kernel
theorem dX8_readPicture_73 : decode cX8_readPicture 73 = .ok (.iconst 3, 1) := by decide +kernel
theorem dX8_readPicture_74 : decode cX8_readPicture 74 = .ok (.if_icmp .ge 46, 3) := by decide +kernel
theorem dX8_readPicture_77 : decode cX8_readPicture 77 = .ok (.aload_n 0, 1) := by decide +kernel
theorem dX8_readPicture_78 : decode cX8_readPicture 78 = .ok (.getfield 13, 3) := by decide +kernel
theorem dX8_readPicture_81 : decode cX8_readPicture 81 = .ok (.iload_n 1, 1) := by decide +kernel
theorem dX8_readPicture_82 : decode cX8_readPicture 82 = .ok (.aload_n 0, 1) := by decide +kernel
theorem dX8_readPicture_83 : decode cX8_readPicture 83 = .ok (.iload_n 1, 1) := by decide +kernel
theorem dX8_readPicture_84 : decode cX8_readPicture 84 = .ok (.iconst 1, 1) := by decide +kernel
theorem dX8_readPicture_85 : decode cX8_readPicture 85 = .ok (.iadd, 1) := by decide +kernel
theorem dX8_readPicture_86 : decode cX8_readPicture 86 = .ok (.invokevirtual 111, 3) := by decide +kernel
theorem dX8_readPicture_89 : decode cX8_readPicture 89 = .ok (.bipush 48, 2) := by decide +kernel
theorem dX8_readPicture_91 : decode cX8_readPicture 91 = .ok (.isub, 1) := by decide +kernel
theorem dX8_readPicture_92 : decode cX8_readPicture 92 = .ok (.iastore, 1) := by decide +kernel
theorem dX8_readPicture_93 : decode cX8_readPicture 93 = .ok (.aload_n 0, 1) := by decide +kernel
theorem dX8_readPicture_94 : decode cX8_readPicture 94 = .ok (.getfield 13, 3) := by decide +kernel
theorem dX8_readPicture_97 : decode cX8_readPicture 97 = .ok (.iload_n 1, 1) := by decide +kernel
theorem dX8_readPicture_98 : decode cX8_readPicture 98 = .ok (.iaload, 1) := by decide +kernel
theorem dX8_readPicture_99 : decode cX8_readPicture 99 = .ok (.i2l, 1) := by decide +kernel
theorem dX8_readPicture_100 : decode cX8_readPicture 100 = .ok (.lconst 1, 1) := by decide +kernel
theorem dX8_readPicture_101 : decode cX8_readPicture 101 = .ok (.ldc2_w 115, 3) := by decide +kernel
theorem dX8_readPicture_104 : decode cX8_readPicture 104 = .ok (.invokestatic 59, 3) := by decide +kernel
theorem dX8_readPicture_107 : decode cX8_readPicture 107 = .ok (.ifCond .ne 7, 3) := by decide +kernel
theorem dX8_readPicture_110 : decode cX8_readPicture 110 = .ok (.iload_n 1, 1) := by decide +kernel
theorem dX8_readPicture_111 : decode cX8_readPicture 111 = .ok (.iconst 1, 1) := by decide +kernel
theorem dX8_readPicture_112 : decode cX8_readPicture 112 = .ok (.iadd, 1) := by decide +kernel
theorem dX8_readPicture_113 : decode cX8_readPicture 113 = .ok (.ireturn, 1) := by decide +kernel
theorem dX8_readPicture_114 : decode cX8_readPicture 114 = .ok (.iinc 1 1, 3) := by decide +kernel
theorem dX8_readPicture_117 : decode cX8_readPicture 117 = .ok (.goto (-45), 3) := by decide +kernel
theorem dX8_readPicture_120 : decode cX8_readPicture 120 = .ok (.aload_n 0, 1) := by decide +kernel
theorem dX8_readPicture_121 : decode cX8_readPicture 121 = .ok (.getfield 13, 3) := by decide +kernel
theorem dX8_readPicture_124 : decode cX8_readPicture 124 = .ok (.invokestatic 55, 3) := by decide +kernel
theorem dX8_readPicture_127 : decode cX8_readPicture 127 = .ok (.istore_n 1, 1) := by decide +kernel
theorem dX8_readPicture_128 : decode cX8_readPicture 128 = .ok (.iconst 0, 1) := by decide +kernel
theorem dX8_readPicture_129 : decode cX8_readPicture 129 = .ok (.istore_n 2, 1) := by decide +kernel
theorem dX8_readPicture_130 : decode cX8_readPicture 130 = .ok (.iload_n 2, 1) := by decide +kernel
theorem dX8_readPicture_131 : decode cX8_readPicture 131 = .ok (.iload_n 1, 1) := by decide +kernel
theorem dX8_readPicture_132 : decode cX8_readPicture 132 = .ok (.if_icmp .ge 50, 3) := by decide +kernel
theorem dX8_readPicture_135 : decode cX8_readPicture 135 = .ok (.aload_n 0, 1) := by decide +kernel
theorem dX8_readPicture_136 : decode cX8_readPicture 136 = .ok (.getfield 13, 3) := by decide +kernel
theorem dX8_readPicture_139 : decode cX8_readPicture 139 = .ok (.iconst 3, 1) := by decide +kernel
theorem dX8_readPicture_140 : decode cX8_readPicture 140 = .ok (.iload_n 2, 1) := by decide +kernel
theorem dX8_readPicture_141 : decode cX8_readPicture 141 = .ok (.iadd, 1) := by decide +kernel
theorem dX8_readPicture_142 : decode cX8_readPicture 142 = .ok (.aload_n 0, 1) := by decide +kernel
theorem dX8_readPicture_143 : decode cX8_readPicture 143 = .ok (.iconst 4, 1) := by decide +kernel
theorem dX8_readPicture_144 : decode cX8_readPicture 144 = .ok (.iload_n 2, 1) := by decide +kernel
theorem dX8_readPicture_145 : decode cX8_readPicture 145 = .ok (.iadd, 1) := by decide +kernel
theorem dX8_readPicture_146 : decode cX8_readPicture 146 = .ok (.invokevirtual 111, 3) := by decide +kernel
theorem dX8_readPicture_149 : decode cX8_readPicture 149 = .ok (.bipush 48, 2) := by decide +kernel
theorem dX8_readPicture_151 : decode cX8_readPicture 151 = .ok (.isub, 1) := by decide +kernel
theorem dX8_readPicture_152 : decode cX8_readPicture 152 = .ok (.iastore, 1) := by decide +kernel
theorem dX8_readPicture_153 : decode cX8_readPicture 153 = .ok (.aload_n 0, 1) := by decide +kernel
theorem dX8_readPicture_154 : decode cX8_readPicture 154 = .ok (.getfield 13, 3) := by decide +kernel
theorem dX8_readPicture_157 : decode cX8_readPicture 157 = .ok (.iconst 3, 1) := by decide +kernel
theorem dX8_readPicture_158 : decode cX8_readPicture 158 = .ok (.iload_n 2, 1) := by decide +kernel
theorem dX8_readPicture_159 : decode cX8_readPicture 159 = .ok (.iadd, 1) := by decide +kernel
theorem dX8_readPicture_160 : decode cX8_readPicture 160 = .ok (.iaload, 1) := by decide +kernel
theorem dX8_readPicture_161 : decode cX8_readPicture 161 = .ok (.i2l, 1) := by decide +kernel
theorem dX8_readPicture_162 : decode cX8_readPicture 162 = .ok (.lconst 0, 1) := by decide +kernel
theorem dX8_readPicture_163 : decode cX8_readPicture 163 = .ok (.ldc2_w 117, 3) := by decide +kernel
theorem dX8_readPicture_166 : decode cX8_readPicture 166 = .ok (.invokestatic 59, 3) := by decide +kernel
theorem dX8_readPicture_169 : decode cX8_readPicture 169 = .ok (.ifCond .ne 7, 3) := by decide +kernel
theorem dX8_readPicture_172 : decode cX8_readPicture 172 = .ok (.iconst 4, 1) := by decide +kernel
theorem dX8_readPicture_173 : decode cX8_readPicture 173 = .ok (.iload_n 2, 1) := by decide +kernel
theorem dX8_readPicture_174 : decode cX8_readPicture 174 = .ok (.iadd, 1) := by decide +kernel
theorem dX8_readPicture_175 : decode cX8_readPicture 175 = .ok (.ireturn, 1) := by decide +kernel
theorem dX8_readPicture_176 : decode cX8_readPicture 176 = .ok (.iinc 2 1, 3) := by decide +kernel
theorem dX8_readPicture_179 : decode cX8_readPicture 179 = .ok (.goto (-49), 3) := by decide +kernel
theorem dX8_readPicture_182 : decode cX8_readPicture 182 = .ok (.aload_n 0, 1) := by decide +kernel
theorem dX8_readPicture_183 : decode cX8_readPicture 183 = .ok (.getfield 108, 3) := by decide +kernel
theorem dX8_readPicture_186 : decode cX8_readPicture 186 = .ok (.iconst 4, 1) := by decide +kernel
theorem dX8_readPicture_187 : decode cX8_readPicture 187 = .ok (.iload_n 1, 1) := by decide +kernel
theorem dX8_readPicture_188 : decode cX8_readPicture 188 = .ok (.iadd, 1) := by decide +kernel
theorem dX8_readPicture_189 : decode cX8_readPicture 189 = .ok (.if_icmp .ne 8, 3) := by decide +kernel
theorem dX8_readPicture_192 : decode cX8_readPicture 192 = .ok (.bipush (-9), 2) := by decide +kernel
theorem dX8_readPicture_194 : decode cX8_readPicture 194 = .ok (.goto 6, 3) := by decide +kernel
theorem dX8_readPicture_197 : decode cX8_readPicture 197 = .ok (.iconst 4, 1) := by decide +kernel
theorem dX8_readPicture_198 : decode cX8_readPicture 198 = .ok (.iload_n 1, 1) := by decide +kernel
theorem dX8_readPicture_199 : decode cX8_readPicture 199 = .ok (.iadd, 1) := by decide +kernel
theorem dX8_readPicture_200 : decode cX8_readPicture 200 = .ok (.ireturn, 1) := by decide +kernel
set_option maxRecDepth 20000 in
theorem ggX8_fault_X8_readPicture : GoodIn wsX8_fault wsX8_readPicture := goodIn_r _ [6, 7, 8, 9, 10, 11, 12, 13, 14, 5, 15, 16, 17, 18, 19, 20, 21, 22, 23, 24, 25, 26, 27, 28, 29, 30, 31, 32, 33, 34, 35, 36, 37, 38, 39, 40, 41, 42] (by decide +kernel) (by decide +kernel)
set_option maxRecDepth 20000 in
theorem gX8_fault_X8_readPicture : GoodIn wsX8_fault (wsV RX8 119 RX8 yX8_readPicture wsX8_readPicture) := goodIn_app (goodIn_of _ (by decide +kernel)) ggX8_fault_X8_readPicture
theorem dX8_fault_0 : decode cX8_fault 0 = .ok (.aload_n 0, 1) := by decide +kernel
theorem dX8_fault_1 : decode cX8_fault 1 = .ok (.iconst 0, 1) := by decide +kernel
theorem dX8_fault_2 : decode cX8_fault 2 = .ok (.putfield 47, 3) := by decide +kernel
theorem dX8_fault_5 : decode cX8_fault 5 = .ok (.aload_n 0, 1) := by decide +kernel
theorem dX8_fault_6 : decode cX8_fault 6 = .ok (.invokevirtual 119, 3) := by decide +kernel
theorem dX8_fault_9 : decode cX8_fault 9 = .ok (.ireturn, 1) := by decide +kernel
set_option maxRecDepth 20000 in
theorem ggX8_picture_X8_readPicture : GoodIn wsX8_picture wsX8_readPicture := goodIn_r _ [10, 3, 11, 12, 13, 14, 15, 16, 17, 9, 18, 19, 20, 21, 22, 23, 24, 59, 60, 61, 62, 63, 64, 65, 66, 67, 68, 69, 70, 71, 72, 73, 74, 75, 76, 77, 78, 79] (by decide +kernel) (by decide +kernel)
set_option maxRecDepth 20000 in
theorem gX8_picture_X8_readPicture : GoodIn wsX8_picture (wsV RX8 119 RX8 yX8_readPicture wsX8_readPicture) := goodIn_app (goodIn_of _ (by decide +kernel)) ggX8_picture_X8_readPicture
set_option maxRecDepth 20000 in
theorem ggX8_picture_X8_nodes : GoodIn wsX8_picture wsX8_nodes := goodIn_r _ [27, 22, 23, 9, 24, 28, 29, 30, 31, 32, 33, 34, 35, 36, 37, 38, 39, 40, 41, 42, 43, 44, 45, 46, 47, 48, 49, 50, 51, 52, 53, 54, 55, 56, 57, 58] (by decide +kernel) (by decide +kernel)
set_option maxRecDepth 20000 in
theorem gX8_picture_X8_nodes : GoodIn wsX8_picture (va_wsS RX8 126 yX8_nodes wsX8_nodes) := goodIn_app (goodIn_of _ (by decide +kernel)) ggX8_picture_X8_nodes
theorem dX8_picture_0 : decode cX8_picture 0 = .ok (.aload_n 0, 1) := by decide +kernel
theorem dX8_picture_1 : decode cX8_picture 1 = .ok (.iconst 0, 1) := by decide +kernel
theorem dX8_picture_2 : decode cX8_picture 2 = .ok (.putfield 47, 3) := by decide +kernel
theorem dX8_picture_5 : decode cX8_picture 5 = .ok (.aload_n 0, 1) := by decide +kernel
theorem dX8_picture_6 : decode cX8_picture 6 = .ok (.invokevirtual 119, 3) := by decide +kernel
theorem dX8_picture_9 : decode cX8_picture 9 = .ok (.bipush (-9), 2) := by decide +kernel
theorem dX8_picture_11 : decode cX8_picture 11 = .ok (.if_icmp .eq 6, 3) := by decide +kernel
theorem dX8_picture_14 : decode cX8_picture 14 = .ok (.bipush (-3), 2) := by decide +kernel
theorem dX8_picture_16 : decode cX8_picture 16 = .ok (.ireturn, 1) := by decide +kernel
theorem dX8_picture_17 : decode cX8_picture 17 = .ok (.iconst 0, 1) := by decide +kernel
theorem dX8_picture_18 : decode cX8_picture 18 = .ok (.istore_n 1, 1) := by decide +kernel
theorem dX8_picture_19 : decode cX8_picture 19 = .ok (.iload_n 1, 1) := by decide +kernel
theorem dX8_picture_20 : decode cX8_picture 20 = .ok (.bipush 39, 2) := by decide +kernel
theorem dX8_picture_22 : decode cX8_picture 22 = .ok (.if_icmp .ge 21, 3) := by decide +kernel
theorem dX8_picture_25 : decode cX8_picture 25 = .ok (.aload_n 0, 1) := by decide +kernel
theorem dX8_picture_26 : decode cX8_picture 26 = .ok (.getfield 16, 3) := by decide +kernel
theorem dX8_picture_29 : decode cX8_picture 29 = .ok (.iload_n 1, 1) := by decide +kernel
theorem dX8_picture_30 : decode cX8_picture 30 = .ok (.aload_n 0, 1) := by decide +kernel
theorem dX8_picture_31 : decode cX8_picture 31 = .ok (.getfield 13, 3) := by decide +kernel
theorem dX8_picture_34 : decode cX8_picture 34 = .ok (.iload_n 1, 1) := by decide +kernel
theorem dX8_picture_35 : decode cX8_picture 35 = .ok (.iaload, 1) := by decide +kernel
theorem dX8_picture_36 : decode cX8_picture 36 = .ok (.iastore, 1) := by decide +kernel
theorem dX8_picture_37 : decode cX8_picture 37 = .ok (.iinc 1 1, 3) := by decide +kernel
theorem dX8_picture_40 : decode cX8_picture 40 = .ok (.goto (-21), 3) := by decide +kernel
theorem dX8_picture_43 : decode cX8_picture 43 = .ok (.aload_n 0, 1) := by decide +kernel
theorem dX8_picture_44 : decode cX8_picture 44 = .ok (.iconst 0, 1) := by decide +kernel
theorem dX8_picture_45 : decode cX8_picture 45 = .ok (.putfield 123, 3) := by decide +kernel
theorem dX8_picture_48 : decode cX8_picture 48 = .ok (.aload_n 0, 1) := by decide +kernel
theorem dX8_picture_49 : decode cX8_picture 49 = .ok (.getfield 31, 3) := by decide +kernel
theorem dX8_picture_52 : decode cX8_picture 52 = .ok (.iconst 0, 1) := by decide +kernel
theorem dX8_picture_53 : decode cX8_picture 53 = .ok (.iconst 0, 1) := by decide +kernel
theorem dX8_picture_54 : decode cX8_picture 54 = .ok (.bastore, 1) := by decide +kernel
theorem dX8_picture_55 : decode cX8_picture 55 = .ok (.aload_n 0, 1) := by decide +kernel
theorem dX8_picture_56 : decode cX8_picture 56 = .ok (.getfield 31, 3) := by decide +kernel
theorem dX8_picture_59 : decode cX8_picture 59 = .ok (.iconst 1, 1) := by decide +kernel
theorem dX8_picture_60 : decode cX8_picture 60 = .ok (.iconst 0, 1) := by decide +kernel
theorem dX8_picture_61 : decode cX8_picture 61 = .ok (.bastore, 1) := by decide +kernel
theorem dX8_picture_62 : decode cX8_picture 62 = .ok (.aload_n 0, 1) := by decide +kernel
theorem dX8_picture_63 : decode cX8_picture 63 = .ok (.getfield 16, 3) := by decide +kernel
theorem dX8_picture_66 : decode cX8_picture 66 = .ok (.invokestatic 126, 3) := by decide +kernel
theorem dX8_picture_69 : decode cX8_picture 69 = .ok (.ireturn, 1) := by decide +kernel
set_option maxRecDepth 20000 in
theorem ggX8_leaves_X8_dotsOf : GoodIn wsX8_leaves wsX8_dotsOf := goodIn_r _ [6] (by decide +kernel) (by decide +kernel)
set_option maxRecDepth 20000 in
theorem gX8_leaves_X8_dotsOf : GoodIn wsX8_leaves (va_wsS RX8 55 yX8_dotsOf wsX8_dotsOf) := goodIn_app (goodIn_of _ (by decide +kernel)) ggX8_leaves_X8_dotsOf
set_option maxRecDepth 20000 in
theorem ggX8_leaves_X8_isHead : GoodIn wsX8_leaves wsX8_isHead := goodIn_r _ [9, 10, 11, 5, 12, 13, 14, 15, 2, 16, 17, 18, 3, 4, 6, 19, 20, 21, 22, 23, 24, 25, 26, 27, 28, 29, 30, 31, 32, 33, 34, 35, 36] (by decide +kernel) (by decide +kernel)
set_option maxRecDepth 20000 in
theorem gX8_leaves_X8_isHead : GoodIn wsX8_leaves (va_wsS RX8 95 yX8_isHead wsX8_isHead) := goodIn_app (goodIn_of _ (by decide +kernel)) ggX8_leaves_X8_isHead
set_option maxRecDepth 20000 in
theorem ggX8_leaves_X8_nodeOf : GoodIn wsX8_leaves wsX8_nodeOf := goodIn_r _ [12, 13, 14, 5, 15, 2, 16, 17, 18, 3, 4, 6, 19, 20, 21, 22, 23, 24, 25, 26, 27, 28, 29, 30] (by decide +kernel) (by decide +kernel)
set_option maxRecDepth 20000 in
theorem gX8_leaves_X8_nodeOf : GoodIn wsX8_leaves (va_wsS RX8 91 yX8_nodeOf wsX8_nodeOf) := goodIn_app (goodIn_of _ (by decide +kernel)) ggX8_leaves_X8_nodeOf
set_option maxRecDepth 20000 in
theorem ggX8_leaves_X8_parent : GoodIn wsX8_leaves wsX8_parent := goodIn_r _ [39, 31, 32, 5, 33, 34, 35, 36, 3, 4, 6, 19, 20, 21, 13, 14, 15, 2, 16, 17, 18, 22, 23, 24, 25, 26, 27, 28, 29, 30] (by decide +kernel) (by decide +kernel)
set_option maxRecDepth 20000 in
theorem gX8_leaves_X8_parent : GoodIn wsX8_leaves (va_wsS RX8 99 yX8_parent wsX8_parent) := goodIn_app (goodIn_of _ (by decide +kernel)) ggX8_leaves_X8_parent
set_option maxRecDepth 20000 in
theorem ggX8_leaves_X8_head : GoodIn wsX8_leaves wsX8_head := goodIn_r _ [33, 34, 35, 5, 36, 3, 4, 6, 19, 20, 21] (by decide +kernel) (by decide +kernel)
set_option maxRecDepth 20000 in
theorem gX8_leaves_X8_head : GoodIn wsX8_leaves (va_wsS RX8 88 yX8_head wsX8_head) := goodIn_app (goodIn_of _ (by decide +kernel)) ggX8_leaves_X8_head
set_option maxRecDepth 20000 in
theorem ggX8_leaves_X8_many : GoodIn wsX8_leaves wsX8_many := goodIn_r _ [42, 19, 20, 5, 21] (by decide +kernel) (by decide +kernel)
set_option maxRecDepth 20000 in
theorem gX8_leaves_X8_many : GoodIn wsX8_leaves (va_wsS RX8 129 yX8_many wsX8_many) := goodIn_app (goodIn_of _ (by decide +kernel)) ggX8_leaves_X8_many
theorem dX8_leaves_0 : decode cX8_leaves 0 = .ok (.lconst 0, 1) := by decide +kernel
theorem dX8_leaves_1 : decode cX8_leaves 1 = .ok (.lstore_n 1, 1) := by decide +kernel
theorem dX8_leaves_2 : decode cX8_leaves 2 = .ok (.iconst 0, 1) := by decide +kernel
theorem dX8_leaves_3 : decode cX8_leaves 3 = .ok (.istore_n 3, 1) := by decide +kernel
theorem dX8_leaves_4 : decode cX8_leaves 4 = .ok (.iload_n 3, 1) := by decide +kernel
theorem dX8_leaves_5 : decode cX8_leaves 5 = .ok (.aload_n 0, 1) := by decide +kernel
theorem dX8_leaves_6 : decode cX8_leaves 6 = .ok (.getfield 16, 3) := by decide +kernel
theorem dX8_leaves_9 : decode cX8_leaves 9 = .ok (.invokestatic 55, 3) := by decide +kernel
theorem dX8_leaves_12 : decode cX8_leaves 12 = .ok (.if_icmp .ge 30, 3) := by decide +kernel
theorem dX8_leaves_15 : decode cX8_leaves 15 = .ok (.lload_n 1, 1) := by decide +kernel
theorem dX8_leaves_16 : decode cX8_leaves 16 = .ok (.aload_n 0, 1) := by decide +kernel
theorem dX8_leaves_17 : decode cX8_leaves 17 = .ok (.getfield 16, 3) := by decide +kernel
theorem dX8_leaves_20 : decode cX8_leaves 20 = .ok (.iload_n 3, 1) := by decide +kernel
theorem dX8_leaves_21 : decode cX8_leaves 21 = .ok (.invokestatic 95, 3) := by decide +kernel
theorem dX8_leaves_24 : decode cX8_leaves 24 = .ok (.ifCond .eq 9, 3) := by decide +kernel
theorem dX8_leaves_27 : decode cX8_leaves 27 = .ok (.lconst 1, 1) := by decide +kernel
theorem dX8_leaves_28 : decode cX8_leaves 28 = .ok (.iload_n 3, 1) := by decide +kernel
theorem dX8_leaves_29 : decode cX8_leaves 29 = .ok (.lshl, 1) := by decide +kernel
theorem dX8_leaves_30 : decode cX8_leaves 30 = .ok (.goto 4, 3) := by decide +kernel
theorem dX8_leaves_33 : decode cX8_leaves 33 = .ok (.lconst 0, 1) := by decide +kernel
theorem dX8_leaves_34 : decode cX8_leaves 34 = .ok (.lor, 1) := by decide +kernel
theorem dX8_leaves_35 : decode cX8_leaves 35 = .ok (.lstore_n 1, 1) := by decide +kernel
theorem dX8_leaves_36 : decode cX8_leaves 36 = .ok (.iinc 3 1, 3) := by decide +kernel
theorem dX8_leaves_39 : decode cX8_leaves 39 = .ok (.goto (-35), 3) := by decide +kernel
theorem dX8_leaves_42 : decode cX8_leaves 42 = .ok (.iconst 0, 1) := by decide +kernel
theorem dX8_leaves_43 : decode cX8_leaves 43 = .ok (.istore_n 3, 1) := by decide +kernel
theorem dX8_leaves_44 : decode cX8_leaves 44 = .ok (.iload_n 3, 1) := by decide +kernel
theorem dX8_leaves_45 : decode cX8_leaves 45 = .ok (.aload_n 0, 1) := by decide +kernel
theorem dX8_leaves_46 : decode cX8_leaves 46 = .ok (.getfield 16, 3) := by decide +kernel
theorem dX8_leaves_49 : decode cX8_leaves 49 = .ok (.invokestatic 55, 3) := by decide +kernel
theorem dX8_leaves_52 : decode cX8_leaves 52 = .ok (.if_icmp .ge 62, 3) := by decide +kernel
theorem dX8_leaves_55 : decode cX8_leaves 55 = .ok (.aload_n 0, 1) := by decide +kernel
theorem dX8_leaves_56 : decode cX8_leaves 56 = .ok (.getfield 16, 3) := by decide +kernel
theorem dX8_leaves_59 : decode cX8_leaves 59 = .ok (.iload_n 3, 1) := by decide +kernel
theorem dX8_leaves_60 : decode cX8_leaves 60 = .ok (.invokestatic 91, 3) := by decide +kernel
theorem dX8_leaves_63 : decode cX8_leaves 63 = .ok (.lstore 4, 2) := by decide +kernel
theorem dX8_leaves_65 : decode cX8_leaves 65 = .ok (.aload_n 0, 1) := by decide +kernel
theorem dX8_leaves_66 : decode cX8_leaves 66 = .ok (.getfield 16, 3) := by decide +kernel
theorem dX8_leaves_69 : decode cX8_leaves 69 = .ok (.lload 4, 2) := by decide +kernel
theorem dX8_leaves_71 : decode cX8_leaves 71 = .ok (.invokestatic 99, 3) := by decide +kernel
theorem dX8_leaves_74 : decode cX8_leaves 74 = .ok (.lstore 6, 2) := by decide +kernel
theorem dX8_leaves_76 : decode cX8_leaves 76 = .ok (.lload_n 1, 1) := by decide +kernel
theorem dX8_leaves_77 : decode cX8_leaves 77 = .ok (.lload 6, 2) := by decide +kernel
theorem dX8_leaves_79 : decode cX8_leaves 79 = .ok (.lload 4, 2) := by decide +kernel
theorem dX8_leaves_81 : decode cX8_leaves 81 = .ok (.lcmp, 1) := by decide +kernel
theorem dX8_leaves_82 : decode cX8_leaves 82 = .ok (.ifCond .ne 9, 3) := by decide +kernel
theorem dX8_leaves_85 : decode cX8_leaves 85 = .ok (.ldc2_w 67, 3) := by decide +kernel
theorem dX8_leaves_88 : decode cX8_leaves 88 = .ok (.goto 18, 3) := by decide +kernel
theorem dX8_leaves_91 : decode cX8_leaves 91 = .ok (.lconst 1, 1) := by decide +kernel
theorem dX8_leaves_92 : decode cX8_leaves 92 = .ok (.aload_n 0, 1) := by decide +kernel
theorem dX8_leaves_93 : decode cX8_leaves 93 = .ok (.getfield 16, 3) := by decide +kernel
theorem dX8_leaves_96 : decode cX8_leaves 96 = .ok (.lload 6, 2) := by decide +kernel
theorem dX8_leaves_98 : decode cX8_leaves 98 = .ok (.invokestatic 88, 3) := by decide +kernel
theorem dX8_leaves_101 : decode cX8_leaves 101 = .ok (.lshl, 1) := by decide +kernel
theorem dX8_leaves_102 : decode cX8_leaves 102 = .ok (.ldc2_w 67, 3) := by decide +kernel
theorem dX8_leaves_105 : decode cX8_leaves 105 = .ok (.lxor, 1) := by decide +kernel
theorem dX8_leaves_106 : decode cX8_leaves 106 = .ok (.land, 1) := by decide +kernel
theorem dX8_leaves_107 : decode cX8_leaves 107 = .ok (.lstore_n 1, 1) := by decide +kernel
theorem dX8_leaves_108 : decode cX8_leaves 108 = .ok (.iinc 3 1, 3) := by decide +kernel
theorem dX8_leaves_111 : decode cX8_leaves 111 = .ok (.goto (-67), 3) := by decide +kernel
theorem dX8_leaves_114 : decode cX8_leaves 114 = .ok (.lload_n 1, 1) := by decide +kernel
theorem dX8_leaves_115 : decode cX8_leaves 115 = .ok (.invokestatic 129, 3) := by decide +kernel
theorem dX8_leaves_118 : decode cX8_leaves 118 = .ok (.ireturn, 1) := by decide +kernel
set_option maxRecDepth 20000 in
theorem ggX8_deepest_X8_dotsOf : GoodIn wsX8_deepest wsX8_dotsOf := goodIn_r _ [5] (by decide +kernel) (by decide +kernel)
set_option maxRecDepth 20000 in
theorem gX8_deepest_X8_dotsOf : GoodIn wsX8_deepest (va_wsS RX8 55 yX8_dotsOf wsX8_dotsOf) := goodIn_app (goodIn_of _ (by decide +kernel)) ggX8_deepest_X8_dotsOf
set_option maxRecDepth 20000 in
theorem ggX8_deepest_X8_nodeOf : GoodIn wsX8_deepest wsX8_nodeOf := goodIn_r _ [8, 9, 10, 4, 11, 12, 13, 14, 15, 2, 3, 5, 16, 17, 18, 19, 20, 21, 22, 23, 24, 25, 26, 27] (by decide +kernel) (by decide +kernel)
set_option maxRecDepth 20000 in
theorem gX8_deepest_X8_nodeOf : GoodIn wsX8_deepest (va_wsS RX8 91 yX8_nodeOf wsX8_nodeOf) := goodIn_app (goodIn_of _ (by decide +kernel)) ggX8_deepest_X8_nodeOf
set_option maxRecDepth 20000 in
theorem ggX8_deepest_X8_depth : GoodIn wsX8_deepest wsX8_depth := goodIn_r _ [30, 31, 32, 4, 33, 34, 35, 36, 37, 38, 39, 2, 3, 5, 16, 17, 18, 9, 10, 11, 12, 13, 14, 15, 19, 20, 21, 22, 23, 24, 25, 26, 27] (by decide +kernel) (by decide +kernel)
set_option maxRecDepth 20000 in
theorem gX8_deepest_X8_depth : GoodIn wsX8_deepest (va_wsS RX8 133 yX8_depth wsX8_depth) := goodIn_app (goodIn_of _ (by decide +kernel)) ggX8_deepest_X8_depth
theorem dX8_deepest_0 : decode cX8_deepest 0 = .ok (.iconst 0, 1) := by decide +kernel
theorem dX8_deepest_1 : decode cX8_deepest 1 = .ok (.istore_n 1, 1) := by decide +kernel
theorem dX8_deepest_2 : decode cX8_deepest 2 = .ok (.iconst 0, 1) := by decide +kernel
theorem dX8_deepest_3 : decode cX8_deepest 3 = .ok (.istore_n 2, 1) := by decide +kernel
theorem dX8_deepest_4 : decode cX8_deepest 4 = .ok (.iload_n 2, 1) := by decide +kernel
theorem dX8_deepest_5 : decode cX8_deepest 5 = .ok (.aload_n 0, 1) := by decide +kernel
theorem dX8_deepest_6 : decode cX8_deepest 6 = .ok (.getfield 16, 3) := by decide +kernel
theorem dX8_deepest_9 : decode cX8_deepest 9 = .ok (.invokestatic 55, 3) := by decide +kernel
theorem dX8_deepest_12 : decode cX8_deepest 12 = .ok (.if_icmp .ge 36, 3) := by decide +kernel
theorem dX8_deepest_15 : decode cX8_deepest 15 = .ok (.aload_n 0, 1) := by decide +kernel
theorem dX8_deepest_16 : decode cX8_deepest 16 = .ok (.getfield 16, 3) := by decide +kernel
theorem dX8_deepest_19 : decode cX8_deepest 19 = .ok (.aload_n 0, 1) := by decide +kernel
theorem dX8_deepest_20 : decode cX8_deepest 20 = .ok (.getfield 16, 3) := by decide +kernel
theorem dX8_deepest_23 : decode cX8_deepest 23 = .ok (.iload_n 2, 1) := by decide +kernel
theorem dX8_deepest_24 : decode cX8_deepest 24 = .ok (.invokestatic 91, 3) := by decide +kernel
theorem dX8_deepest_27 : decode cX8_deepest 27 = .ok (.invokestatic 133, 3) := by decide +kernel
theorem dX8_deepest_30 : decode cX8_deepest 30 = .ok (.istore_n 3, 1) := by decide +kernel
theorem dX8_deepest_31 : decode cX8_deepest 31 = .ok (.iload_n 3, 1) := by decide +kernel
theorem dX8_deepest_32 : decode cX8_deepest 32 = .ok (.iload_n 1, 1) := by decide +kernel
theorem dX8_deepest_33 : decode cX8_deepest 33 = .ok (.if_icmp .le 7, 3) := by decide +kernel
theorem dX8_deepest_36 : decode cX8_deepest 36 = .ok (.iload_n 3, 1) := by decide +kernel
theorem dX8_deepest_37 : decode cX8_deepest 37 = .ok (.goto 4, 3) := by decide +kernel
theorem dX8_deepest_40 : decode cX8_deepest 40 = .ok (.iload_n 1, 1) := by decide +kernel
theorem dX8_deepest_41 : decode cX8_deepest 41 = .ok (.istore_n 1, 1) := by decide +kernel
theorem dX8_deepest_42 : decode cX8_deepest 42 = .ok (.iinc 2 1, 3) := by decide +kernel
theorem dX8_deepest_45 : decode cX8_deepest 45 = .ok (.goto (-41), 3) := by decide +kernel
theorem dX8_deepest_48 : decode cX8_deepest 48 = .ok (.iload_n 1, 1) := by decide +kernel
theorem dX8_deepest_49 : decode cX8_deepest 49 = .ok (.ireturn, 1) := by decide +kernel
set_option maxRecDepth 20000 in
theorem ggX8_about_X8_nodes : GoodIn wsX8_about wsX8_nodes := goodIn_r _ [10, 11, 12, 9, 13, 14, 15, 16, 17, 18, 19, 20, 21, 22, 3, 23, 24, 25, 26, 27, 28, 29, 30, 31, 32, 33, 34, 35, 36, 37, 38, 39, 40, 41, 42, 43] (by decide +kernel) (by decide +kernel)
set_option maxRecDepth 20000 in
theorem gX8_about_X8_nodes : GoodIn wsX8_about (va_wsS RX8 126 yX8_nodes wsX8_nodes) := goodIn_app (goodIn_of _ (by decide +kernel)) ggX8_about_X8_nodes
set_option maxRecDepth 20000 in
theorem ggX8_about_X8_leaves : GoodIn wsX8_about wsX8_leaves := goodIn_r _ [47, 2, 3, 11, 12, 9, 13, 14, 15, 16, 17, 18, 19, 20, 21, 22, 23, 24, 25, 26, 27, 28, 29, 30, 31, 32, 33, 34, 35, 36, 37, 38, 39, 40, 41, 42, 43, 48, 49, 50, 51, 52, 53, 64, 65, 66, 67, 68, 69, 70, 71, 72, 73, 74, 75, 76, 77, 78, 79, 80, 81, 82, 83, 84] (by decide +kernel) (by decide +kernel)
set_option maxRecDepth 20000 in
theorem gX8_about_X8_leaves : GoodIn wsX8_about (wsV RX8 136 RX8 yX8_leaves wsX8_leaves) := goodIn_app (goodIn_of _ (by decide +kernel)) ggX8_about_X8_leaves
set_option maxRecDepth 20000 in
theorem ggX8_about_X8_deepest : GoodIn wsX8_about wsX8_deepest := goodIn_r _ [57, 2, 11, 12, 9, 13, 17, 18, 19, 20, 21, 22, 3, 23, 24, 25, 26, 27, 28, 29, 30, 31, 32, 33, 34, 35, 36, 37, 58, 59, 60, 48, 49, 50, 38, 39, 40, 41, 42, 43, 64, 65, 66, 67, 68, 69, 70, 71, 72, 73, 74, 75, 76, 77, 78, 79, 80, 81, 82, 83, 84] (by decide +kernel) (by decide +kernel)
set_option maxRecDepth 20000 in
theorem gX8_about_X8_deepest : GoodIn wsX8_about (wsV RX8 139 RX8 yX8_deepest wsX8_deepest) := goodIn_app (goodIn_of _ (by decide +kernel)) ggX8_about_X8_deepest
set_option maxRecDepth 20000 in
theorem ggX8_about_X8_light : GoodIn wsX8_about wsX8_light := goodIn_r _ [63, 11, 12, 9, 13, 26, 27, 28] (by decide +kernel) (by decide +kernel)
set_option maxRecDepth 20000 in
theorem gX8_about_X8_light : GoodIn wsX8_about (va_wsS RX8 142 yX8_light wsX8_light) := goodIn_app (goodIn_of _ (by decide +kernel)) ggX8_about_X8_light
theorem dX8_about_0 : decode cX8_about 0 = .ok (.aload_n 0, 1) := by decide +kernel
theorem dX8_about_1 : decode cX8_about 1 = .ok (.iconst 0, 1) := by decide +kernel
theorem dX8_about_2 : decode cX8_about 2 = .ok (.putfield 47, 3) := by decide +kernel
theorem dX8_about_5 : decode cX8_about 5 = .ok (.iload_n 1, 1) := by decide +kernel
theorem dX8_about_6 : decode cX8_about 6 = .ok (.tableswitch 105 0 9 #[54, 54, 54, 61, 69, 74, 79, 90, 95, 100], 54) := by decide +kernel
theorem dX8_about_60 : decode cX8_about 60 = .ok (.aload_n 0, 1) := by decide +kernel
theorem dX8_about_61 : decode cX8_about 61 = .ok (.getfield 16, 3) := by decide +kernel
theorem dX8_about_64 : decode cX8_about 64 = .ok (.iload_n 1, 1) := by decide +kernel
theorem dX8_about_65 : decode cX8_about 65 = .ok (.iaload, 1) := by decide +kernel
theorem dX8_about_66 : decode cX8_about 66 = .ok (.ireturn, 1) := by decide +kernel
theorem dX8_about_67 : decode cX8_about 67 = .ok (.aload_n 0, 1) := by decide +kernel
theorem dX8_about_68 : decode cX8_about 68 = .ok (.getfield 16, 3) := by decide +kernel
theorem dX8_about_71 : decode cX8_about 71 = .ok (.invokestatic 126, 3) := by decide +kernel
theorem dX8_about_74 : decode cX8_about 74 = .ok (.ireturn, 1) := by decide +kernel
theorem dX8_about_75 : decode cX8_about 75 = .ok (.aload_n 0, 1) := by decide +kernel
theorem dX8_about_76 : decode cX8_about 76 = .ok (.invokevirtual 136, 3) := by decide +kernel
theorem dX8_about_79 : decode cX8_about 79 = .ok (.ireturn, 1) := by decide +kernel
theorem dX8_about_80 : decode cX8_about 80 = .ok (.aload_n 0, 1) := by decide +kernel
theorem dX8_about_81 : decode cX8_about 81 = .ok (.invokevirtual 139, 3) := by decide +kernel
theorem dX8_about_84 : decode cX8_about 84 = .ok (.ireturn, 1) := by decide +kernel
theorem dX8_about_85 : decode cX8_about 85 = .ok (.aload_n 0, 1) := by decide +kernel
theorem dX8_about_86 : decode cX8_about 86 = .ok (.getfield 16, 3) := by decide +kernel
theorem dX8_about_89 : decode cX8_about 89 = .ok (.ldc2_w 67, 3) := by decide +kernel
theorem dX8_about_92 : decode cX8_about 92 = .ok (.invokestatic 142, 3) := by decide +kernel
theorem dX8_about_95 : decode cX8_about 95 = .ok (.ireturn, 1) := by decide +kernel
theorem dX8_about_96 : decode cX8_about 96 = .ok (.aload_n 0, 1) := by decide +kernel
theorem dX8_about_97 : decode cX8_about 97 = .ok (.getfield 123, 3) := by decide +kernel
theorem dX8_about_100 : decode cX8_about 100 = .ok (.ireturn, 1) := by decide +kernel
theorem dX8_about_101 : decode cX8_about 101 = .ok (.aload_n 0, 1) := by decide +kernel
theorem dX8_about_102 : decode cX8_about 102 = .ok (.getfield 145, 3) := by decide +kernel
theorem dX8_about_105 : decode cX8_about 105 = .ok (.ireturn, 1) := by decide +kernel
theorem dX8_about_106 : decode cX8_about 106 = .ok (.aload_n 0, 1) := by decide +kernel
theorem dX8_about_107 : decode cX8_about 107 = .ok (.getfield 108, 3) := by decide +kernel
theorem dX8_about_110 : decode cX8_about 110 = .ok (.ireturn, 1) := by decide +kernel
theorem dX8_about_111 : decode cX8_about 111 = .ok (.bipush (-2), 2) := by decide +kernel
theorem dX8_about_113 : decode cX8_about 113 = .ok (.ireturn, 1) := by decide +kernel
set_option maxRecDepth 20000 in
theorem ggX8_shade_X8_noDot : GoodIn wsX8_shade wsX8_noDot := goodIn_r _ [7, 2, 8, 9, 6, 10, 11, 12, 13, 14, 15, 16, 17, 18, 19, 20, 21, 22, 23, 24, 25, 26, 27, 28, 29, 30, 31, 32, 33, 34] (by decide +kernel) (by decide +kernel)
set_option maxRecDepth 20000 in
theorem gX8_shade_X8_noDot : GoodIn wsX8_shade (wsV RX8 148 RX8 yX8_noDot wsX8_noDot) := goodIn_app (goodIn_of _ (by decide +kernel)) ggX8_shade_X8_noDot
theorem dX8_shade_0 : decode cX8_shade 0 = .ok (.aload_n 0, 1) := by decide +kernel
theorem dX8_shade_1 : decode cX8_shade 1 = .ok (.iconst 0, 1) := by decide +kernel
theorem dX8_shade_2 : decode cX8_shade 2 = .ok (.putfield 47, 3) := by decide +kernel
theorem dX8_shade_5 : decode cX8_shade 5 = .ok (.aload_n 0, 1) := by decide +kernel
theorem dX8_shade_6 : decode cX8_shade 6 = .ok (.iload_n 1, 1) := by decide +kernel
theorem dX8_shade_7 : decode cX8_shade 7 = .ok (.invokevirtual 148, 3) := by decide +kernel
theorem dX8_shade_10 : decode cX8_shade 10 = .ok (.ifCond .eq 7, 3) := by decide +kernel
theorem dX8_shade_13 : decode cX8_shade 13 = .ok (.iconst (-1), 1) := by decide +kernel
theorem dX8_shade_14 : decode cX8_shade 14 = .ok (.goto 11, 3) := by decide +kernel
theorem dX8_shade_17 : decode cX8_shade 17 = .ok (.aload_n 0, 1) := by decide +kernel
theorem dX8_shade_18 : decode cX8_shade 18 = .ok (.getfield 16, 3) := by decide +kernel
theorem dX8_shade_21 : decode cX8_shade 21 = .ok (.iconst 3, 1) := by decide +kernel
theorem dX8_shade_22 : decode cX8_shade 22 = .ok (.iload_n 1, 1) := by decide +kernel
theorem dX8_shade_23 : decode cX8_shade 23 = .ok (.iadd, 1) := by decide +kernel
theorem dX8_shade_24 : decode cX8_shade 24 = .ok (.iaload, 1) := by decide +kernel
theorem dX8_shade_25 : decode cX8_shade 25 = .ok (.ireturn, 1) := by decide +kernel
set_option maxRecDepth 20000 in
theorem ggX8_node_X8_noDot : GoodIn wsX8_node wsX8_noDot := goodIn_r _ [7, 2, 8, 9, 6, 10, 11, 12, 13, 69, 70, 71, 72, 73, 74, 75, 76, 77, 78, 79, 80, 81, 82, 83, 84, 85, 86, 87, 88, 89] (by decide +kernel) (by decide +kernel)
set_option maxRecDepth 20000 in
theorem gX8_node_X8_noDot : GoodIn wsX8_node (wsV RX8 148 RX8 yX8_noDot wsX8_noDot) := goodIn_app (goodIn_of _ (by decide +kernel)) ggX8_node_X8_noDot
set_option maxRecDepth 20000 in
theorem ggX8_node_X8_nodeOf : GoodIn wsX8_node wsX8_nodeOf := goodIn_r _ [16, 17, 18, 6, 19, 20, 21, 22, 23, 8, 9, 10, 24, 25, 26, 27, 28, 29, 30, 31, 32, 33, 34, 35] (by decide +kernel) (by decide +kernel)
set_option maxRecDepth 20000 in
theorem gX8_node_X8_nodeOf : GoodIn wsX8_node (va_wsS RX8 91 yX8_nodeOf wsX8_nodeOf) := goodIn_app (goodIn_of _ (by decide +kernel)) ggX8_node_X8_nodeOf
set_option maxRecDepth 20000 in
theorem ggX8_node_X8_head : GoodIn wsX8_node wsX8_head := goodIn_r _ [38, 39, 40, 6, 41, 8, 9, 10, 24, 25, 26] (by decide +kernel) (by decide +kernel)
set_option maxRecDepth 20000 in
theorem gX8_node_X8_head : GoodIn wsX8_node (va_wsS RX8 88 yX8_head wsX8_head) := goodIn_app (goodIn_of _ (by decide +kernel)) ggX8_node_X8_head
set_option maxRecDepth 20000 in
theorem ggX8_node_X8_level : GoodIn wsX8_node wsX8_level := goodIn_r _ [41, 8, 9, 6, 10, 24, 25, 26] (by decide +kernel) (by decide +kernel)
set_option maxRecDepth 20000 in
theorem gX8_node_X8_level : GoodIn wsX8_node (va_wsS RX8 84 yX8_level wsX8_level) := goodIn_app (goodIn_of _ (by decide +kernel)) ggX8_node_X8_level
set_option maxRecDepth 20000 in
theorem ggX8_node_X8_many : GoodIn wsX8_node wsX8_many := goodIn_r _ [44, 24, 25, 6, 26] (by decide +kernel) (by decide +kernel)
set_option maxRecDepth 20000 in
theorem gX8_node_X8_many : GoodIn wsX8_node (va_wsS RX8 129 yX8_many wsX8_many) := goodIn_app (goodIn_of _ (by decide +kernel)) ggX8_node_X8_many
set_option maxRecDepth 20000 in
theorem ggX8_node_X8_light : GoodIn wsX8_node wsX8_light := goodIn_r _ [47, 8, 9, 6, 10, 24, 25, 26] (by decide +kernel) (by decide +kernel)
set_option maxRecDepth 20000 in
theorem gX8_node_X8_light : GoodIn wsX8_node (va_wsS RX8 142 yX8_light wsX8_light) := goodIn_app (goodIn_of _ (by decide +kernel)) ggX8_node_X8_light
set_option maxRecDepth 20000 in
theorem ggX8_node_X8_parent : GoodIn wsX8_node wsX8_parent := goodIn_r _ [50, 36, 37, 6, 38, 39, 40, 41, 8, 9, 10, 24, 25, 26, 17, 18, 19, 20, 21, 22, 23, 27, 28, 29, 30, 31, 32, 33, 34, 35] (by decide +kernel) (by decide +kernel)
set_option maxRecDepth 20000 in
theorem gX8_node_X8_parent : GoodIn wsX8_node (va_wsS RX8 99 yX8_parent wsX8_parent) := goodIn_app (goodIn_of _ (by decide +kernel)) ggX8_node_X8_parent
set_option maxRecDepth 20000 in
theorem ggX8_node_X8_children : GoodIn wsX8_node wsX8_children := goodIn_r _ [53, 8, 9, 6, 10, 24, 25, 26, 54, 55, 56, 14, 15, 16, 17, 18, 19, 20, 21, 22, 23, 27, 28, 29, 30, 31, 32, 33, 34, 35, 36, 37, 38, 39, 40, 41, 48, 49, 50] (by decide +kernel) (by decide +kernel)
set_option maxRecDepth 20000 in
theorem gX8_node_X8_children : GoodIn wsX8_node (va_wsS RX8 152 yX8_children wsX8_children) := goodIn_app (goodIn_of _ (by decide +kernel)) ggX8_node_X8_children
set_option maxRecDepth 20000 in
theorem ggX8_node_X8_depth : GoodIn wsX8_node wsX8_depth := goodIn_r _ [59, 48, 49, 6, 50, 36, 37, 38, 39, 40, 41, 8, 9, 10, 24, 25, 26, 17, 18, 19, 20, 21, 22, 23, 27, 28, 29, 30, 31, 32, 33, 34, 35] (by decide +kernel) (by decide +kernel)
set_option maxRecDepth 20000 in
theorem gX8_node_X8_depth : GoodIn wsX8_node (va_wsS RX8 133 yX8_depth wsX8_depth) := goodIn_app (goodIn_of _ (by decide +kernel)) ggX8_node_X8_depth
set_option maxRecDepth 20000 in
theorem ggX8_node_X8_box : GoodIn wsX8_node wsX8_box := goodIn_r _ [62, 8, 9, 6, 10, 24, 25, 26] (by decide +kernel) (by decide +kernel)
set_option maxRecDepth 20000 in
theorem gX8_node_X8_box : GoodIn wsX8_node (va_wsS RX8 155 yX8_box wsX8_box) := goodIn_app (goodIn_of _ (by decide +kernel)) ggX8_node_X8_box
set_option maxRecDepth 20000 in
theorem ggX8_node_X8_rise : GoodIn wsX8_node wsX8_rise := goodIn_r _ [65, 39, 40, 6, 41, 8, 9, 10, 24, 25, 26, 66, 67, 68, 36, 37, 38, 17, 18, 19, 20, 21, 22, 23, 27, 28, 29, 30, 31, 32, 33, 34, 35] (by decide +kernel) (by decide +kernel)
set_option maxRecDepth 20000 in
theorem gX8_node_X8_rise : GoodIn wsX8_node (va_wsS RX8 159 yX8_rise wsX8_rise) := goodIn_app (goodIn_of _ (by decide +kernel)) ggX8_node_X8_rise
theorem dX8_node_0 : decode cX8_node 0 = .ok (.aload_n 0, 1) := by decide +kernel
theorem dX8_node_1 : decode cX8_node 1 = .ok (.iconst 0, 1) := by decide +kernel
theorem dX8_node_2 : decode cX8_node 2 = .ok (.putfield 47, 3) := by decide +kernel
theorem dX8_node_5 : decode cX8_node 5 = .ok (.aload_n 0, 1) := by decide +kernel
theorem dX8_node_6 : decode cX8_node 6 = .ok (.iload_n 1, 1) := by decide +kernel
theorem dX8_node_7 : decode cX8_node 7 = .ok (.invokevirtual 148, 3) := by decide +kernel
theorem dX8_node_10 : decode cX8_node 10 = .ok (.ifCond .eq 5, 3) := by decide +kernel
theorem dX8_node_13 : decode cX8_node 13 = .ok (.iconst (-1), 1) := by decide +kernel
theorem dX8_node_14 : decode cX8_node 14 = .ok (.ireturn, 1) := by decide +kernel
theorem dX8_node_15 : decode cX8_node 15 = .ok (.aload_n 0, 1) := by decide +kernel
theorem dX8_node_16 : decode cX8_node 16 = .ok (.getfield 16, 3) := by decide +kernel
theorem dX8_node_19 : decode cX8_node 19 = .ok (.iload_n 1, 1) := by decide +kernel
theorem dX8_node_20 : decode cX8_node 20 = .ok (.invokestatic 91, 3) := by decide +kernel
theorem dX8_node_23 : decode cX8_node 23 = .ok (.lstore_n 3, 1) := by decide +kernel
theorem dX8_node_24 : decode cX8_node 24 = .ok (.iload_n 2, 1) := by decide +kernel
theorem dX8_node_25 : decode cX8_node 25 = .ok (.tableswitch 168 0 9 #[55, 64, 73, 78, 87, 121, 130, 139, 149, 159], 55) := by decide +kernel
theorem dX8_node_80 : decode cX8_node 80 = .ok (.aload_n 0, 1) := by decide +kernel
theorem dX8_node_81 : decode cX8_node 81 = .ok (.getfield 16, 3) := by decide +kernel
theorem dX8_node_84 : decode cX8_node 84 = .ok (.lload_n 3, 1) := by decide +kernel
theorem dX8_node_85 : decode cX8_node 85 = .ok (.invokestatic 88, 3) := by decide +kernel
theorem dX8_node_88 : decode cX8_node 88 = .ok (.ireturn, 1) := by decide +kernel
theorem dX8_node_89 : decode cX8_node 89 = .ok (.aload_n 0, 1) := by decide +kernel
theorem dX8_node_90 : decode cX8_node 90 = .ok (.getfield 16, 3) := by decide +kernel
theorem dX8_node_93 : decode cX8_node 93 = .ok (.lload_n 3, 1) := by decide +kernel
theorem dX8_node_94 : decode cX8_node 94 = .ok (.invokestatic 84, 3) := by decide +kernel
theorem dX8_node_97 : decode cX8_node 97 = .ok (.ireturn, 1) := by decide +kernel
theorem dX8_node_98 : decode cX8_node 98 = .ok (.lload_n 3, 1) := by decide +kernel
theorem dX8_node_99 : decode cX8_node 99 = .ok (.invokestatic 129, 3) := by decide +kernel
theorem dX8_node_102 : decode cX8_node 102 = .ok (.ireturn, 1) := by decide +kernel
theorem dX8_node_103 : decode cX8_node 103 = .ok (.aload_n 0, 1) := by decide +kernel
theorem dX8_node_104 : decode cX8_node 104 = .ok (.getfield 16, 3) := by decide +kernel
theorem dX8_node_107 : decode cX8_node 107 = .ok (.lload_n 3, 1) := by decide +kernel
theorem dX8_node_108 : decode cX8_node 108 = .ok (.invokestatic 142, 3) := by decide +kernel
theorem dX8_node_111 : decode cX8_node 111 = .ok (.ireturn, 1) := by decide +kernel
theorem dX8_node_112 : decode cX8_node 112 = .ok (.aload_n 0, 1) := by decide +kernel
theorem dX8_node_113 : decode cX8_node 113 = .ok (.getfield 16, 3) := by decide +kernel
theorem dX8_node_116 : decode cX8_node 116 = .ok (.lload_n 3, 1) := by decide +kernel
theorem dX8_node_117 : decode cX8_node 117 = .ok (.invokestatic 99, 3) := by decide +kernel
theorem dX8_node_120 : decode cX8_node 120 = .ok (.lload_n 3, 1) := by decide +kernel
theorem dX8_node_121 : decode cX8_node 121 = .ok (.lcmp, 1) := by decide +kernel
theorem dX8_node_122 : decode cX8_node 122 = .ok (.ifCond .ne 8, 3) := by decide +kernel
theorem dX8_node_125 : decode cX8_node 125 = .ok (.bipush (-9), 2) := by decide +kernel
theorem dX8_node_127 : decode cX8_node 127 = .ok (.goto 18, 3) := by decide +kernel
theorem dX8_node_130 : decode cX8_node 130 = .ok (.aload_n 0, 1) := by decide +kernel
theorem dX8_node_131 : decode cX8_node 131 = .ok (.getfield 16, 3) := by decide +kernel
theorem dX8_node_134 : decode cX8_node 134 = .ok (.aload_n 0, 1) := by decide +kernel
theorem dX8_node_135 : decode cX8_node 135 = .ok (.getfield 16, 3) := by decide +kernel
theorem dX8_node_138 : decode cX8_node 138 = .ok (.lload_n 3, 1) := by decide +kernel
theorem dX8_node_139 : decode cX8_node 139 = .ok (.invokestatic 99, 3) := by decide +kernel
theorem dX8_node_142 : decode cX8_node 142 = .ok (.invokestatic 88, 3) := by decide +kernel
theorem dX8_node_145 : decode cX8_node 145 = .ok (.ireturn, 1) := by decide +kernel
theorem dX8_node_146 : decode cX8_node 146 = .ok (.aload_n 0, 1) := by decide +kernel
theorem dX8_node_147 : decode cX8_node 147 = .ok (.getfield 16, 3) := by decide +kernel
theorem dX8_node_150 : decode cX8_node 150 = .ok (.lload_n 3, 1) := by decide +kernel
theorem dX8_node_151 : decode cX8_node 151 = .ok (.invokestatic 152, 3) := by decide +kernel
theorem dX8_node_154 : decode cX8_node 154 = .ok (.ireturn, 1) := by decide +kernel
theorem dX8_node_155 : decode cX8_node 155 = .ok (.aload_n 0, 1) := by decide +kernel
theorem dX8_node_156 : decode cX8_node 156 = .ok (.getfield 16, 3) := by decide +kernel
theorem dX8_node_159 : decode cX8_node 159 = .ok (.lload_n 3, 1) := by decide +kernel
theorem dX8_node_160 : decode cX8_node 160 = .ok (.invokestatic 133, 3) := by decide +kernel
theorem dX8_node_163 : decode cX8_node 163 = .ok (.ireturn, 1) := by decide +kernel
theorem dX8_node_164 : decode cX8_node 164 = .ok (.aload_n 0, 1) := by decide +kernel
theorem dX8_node_165 : decode cX8_node 165 = .ok (.getfield 16, 3) := by decide +kernel
theorem dX8_node_168 : decode cX8_node 168 = .ok (.lload_n 3, 1) := by decide +kernel
theorem dX8_node_169 : decode cX8_node 169 = .ok (.iconst 1, 1) := by decide +kernel
theorem dX8_node_170 : decode cX8_node 170 = .ok (.invokestatic 155, 3) := by decide +kernel
theorem dX8_node_173 : decode cX8_node 173 = .ok (.ireturn, 1) := by decide +kernel
theorem dX8_node_174 : decode cX8_node 174 = .ok (.aload_n 0, 1) := by decide +kernel
theorem dX8_node_175 : decode cX8_node 175 = .ok (.getfield 16, 3) := by decide +kernel
theorem dX8_node_178 : decode cX8_node 178 = .ok (.lload_n 3, 1) := by decide +kernel
theorem dX8_node_179 : decode cX8_node 179 = .ok (.iconst 0, 1) := by decide +kernel
theorem dX8_node_180 : decode cX8_node 180 = .ok (.invokestatic 155, 3) := by decide +kernel
theorem dX8_node_183 : decode cX8_node 183 = .ok (.ireturn, 1) := by decide +kernel
theorem dX8_node_184 : decode cX8_node 184 = .ok (.aload_n 0, 1) := by decide +kernel
theorem dX8_node_185 : decode cX8_node 185 = .ok (.getfield 16, 3) := by decide +kernel
theorem dX8_node_188 : decode cX8_node 188 = .ok (.lload_n 3, 1) := by decide +kernel
theorem dX8_node_189 : decode cX8_node 189 = .ok (.invokestatic 159, 3) := by decide +kernel
theorem dX8_node_192 : decode cX8_node 192 = .ok (.ireturn, 1) := by decide +kernel
theorem dX8_node_193 : decode cX8_node 193 = .ok (.bipush (-2), 2) := by decide +kernel
theorem dX8_node_195 : decode cX8_node 195 = .ok (.ireturn, 1) := by decide +kernel
set_option maxRecDepth 20000 in
theorem ggX8_dots_X8_noDot : GoodIn wsX8_dots wsX8_noDot := goodIn_r _ [8, 3, 9, 10, 7, 11, 12, 13, 14, 36, 37, 38, 39, 40, 41, 42, 43, 44, 45, 46, 47, 48, 49, 50, 51, 52, 53, 54, 55, 56] (by decide +kernel) (by decide +kernel)
set_option maxRecDepth 20000 in
theorem gX8_dots_X8_noDot : GoodIn wsX8_dots (wsV RX8 148 RX8 yX8_noDot wsX8_noDot) := goodIn_app (goodIn_of _ (by decide +kernel)) ggX8_dots_X8_noDot
set_option maxRecDepth 20000 in
theorem ggX8_dots_X8_nodeOf : GoodIn wsX8_dots wsX8_nodeOf := goodIn_r _ [17, 18, 19, 7, 20, 2, 21, 22, 23, 9, 10, 11, 24, 25, 26, 27, 28, 29, 30, 31, 32, 33, 34, 35] (by decide +kernel) (by decide +kernel)
set_option maxRecDepth 20000 in
theorem gX8_dots_X8_nodeOf : GoodIn wsX8_dots (va_wsS RX8 91 yX8_nodeOf wsX8_nodeOf) := goodIn_app (goodIn_of _ (by decide +kernel)) ggX8_dots_X8_nodeOf
theorem dX8_dots_0 : decode cX8_dots 0 = .ok (.aload_n 0, 1) := by decide +kernel
theorem dX8_dots_1 : decode cX8_dots 1 = .ok (.iconst 0, 1) := by decide +kernel
theorem dX8_dots_2 : decode cX8_dots 2 = .ok (.putfield 47, 3) := by decide +kernel
theorem dX8_dots_5 : decode cX8_dots 5 = .ok (.aload_n 0, 1) := by decide +kernel
theorem dX8_dots_6 : decode cX8_dots 6 = .ok (.iload_n 1, 1) := by decide +kernel
theorem dX8_dots_7 : decode cX8_dots 7 = .ok (.invokevirtual 148, 3) := by decide +kernel
theorem dX8_dots_10 : decode cX8_dots 10 = .ok (.ifCond .eq 9, 3) := by decide +kernel
theorem dX8_dots_13 : decode cX8_dots 13 = .ok (.ldc2_w 67, 3) := by decide +kernel
theorem dX8_dots_16 : decode cX8_dots 16 = .ok (.goto 11, 3) := by decide +kernel
theorem dX8_dots_19 : decode cX8_dots 19 = .ok (.aload_n 0, 1) := by decide +kernel
theorem dX8_dots_20 : decode cX8_dots 20 = .ok (.getfield 16, 3) := by decide +kernel
theorem dX8_dots_23 : decode cX8_dots 23 = .ok (.iload_n 1, 1) := by decide +kernel
theorem dX8_dots_24 : decode cX8_dots 24 = .ok (.invokestatic 91, 3) := by decide +kernel
theorem dX8_dots_27 : decode cX8_dots 27 = .ok (.lreturn, 1) := by decide +kernel
set_option maxRecDepth 20000 in
theorem ggX8_parts_X8_in : GoodIn wsX8_parts wsX8_in := goodIn_r _ [8] (by decide +kernel) (by decide +kernel)
set_option maxRecDepth 20000 in
theorem gX8_parts_X8_in : GoodIn wsX8_parts (va_wsS RX8 59 yX8_in wsX8_in) := goodIn_app (goodIn_of _ (by decide +kernel)) ggX8_parts_X8_in
set_option maxRecDepth 20000 in
theorem ggX8_parts_X8_partsOf : GoodIn wsX8_parts wsX8_partsOf := goodIn_r _ [11, 4, 12, 13, 7, 14, 15, 16, 17, 18, 19, 20, 21, 22, 23, 24, 25, 26, 27, 28, 29] (by decide +kernel) (by decide +kernel)
set_option maxRecDepth 20000 in
theorem gX8_parts_X8_partsOf : GoodIn wsX8_parts (va_wsS RX8 162 yX8_partsOf wsX8_partsOf) := goodIn_app (goodIn_of _ (by decide +kernel)) ggX8_parts_X8_partsOf
theorem dX8_parts_0 : decode cX8_parts 0 = .ok (.aload_n 0, 1) := by decide +kernel
theorem dX8_parts_1 : decode cX8_parts 1 = .ok (.iconst 0, 1) := by decide +kernel
theorem dX8_parts_2 : decode cX8_parts 2 = .ok (.putfield 47, 3) := by decide +kernel
theorem dX8_parts_5 : decode cX8_parts 5 = .ok (.iload_n 1, 1) := by decide +kernel
theorem dX8_parts_6 : decode cX8_parts 6 = .ok (.i2l, 1) := by decide +kernel
theorem dX8_parts_7 : decode cX8_parts 7 = .ok (.lconst 0, 1) := by decide +kernel
theorem dX8_parts_8 : decode cX8_parts 8 = .ok (.ldc2_w 117, 3) := by decide +kernel
theorem dX8_parts_11 : decode cX8_parts 11 = .ok (.invokestatic 59, 3) := by decide +kernel
theorem dX8_parts_14 : decode cX8_parts 14 = .ok (.ifCond .eq 17, 3) := by decide +kernel
theorem dX8_parts_17 : decode cX8_parts 17 = .ok (.aload_n 0, 1) := by decide +kernel
theorem dX8_parts_18 : decode cX8_parts 18 = .ok (.getfield 16, 3) := by decide +kernel
theorem dX8_parts_21 : decode cX8_parts 21 = .ok (.iload_n 1, 1) := by decide +kernel
theorem dX8_parts_22 : decode cX8_parts 22 = .ok (.ldc2_w 67, 3) := by decide +kernel
theorem dX8_parts_25 : decode cX8_parts 25 = .ok (.invokestatic 162, 3) := by decide +kernel
theorem dX8_parts_28 : decode cX8_parts 28 = .ok (.goto 5, 3) := by decide +kernel
theorem dX8_parts_31 : decode cX8_parts 31 = .ok (.bipush (-2), 2) := by decide +kernel
theorem dX8_parts_33 : decode cX8_parts 33 = .ok (.ireturn, 1) := by decide +kernel
theorem dX8_note_0 : decode cX8_note 0 = .ok (.aload_n 0, 1) := by decide +kernel
theorem dX8_note_1 : decode cX8_note 1 = .ok (.getfield 123, 3) := by decide +kernel
theorem dX8_note_4 : decode cX8_note 4 = .ok (.bipush 14, 2) := by decide +kernel
theorem dX8_note_6 : decode cX8_note 6 = .ok (.if_icmp .ne 43, 3) := by decide +kernel
theorem dX8_note_9 : decode cX8_note 9 = .ok (.iconst 0, 1) := by decide +kernel
theorem dX8_note_10 : decode cX8_note 10 = .ok (.istore_n 1, 1) := by decide +kernel
theorem dX8_note_11 : decode cX8_note 11 = .ok (.iload_n 1, 1) := by decide +kernel
theorem dX8_note_12 : decode cX8_note 12 = .ok (.sipush 507, 3) := by decide +kernel
theorem dX8_note_15 : decode cX8_note 15 = .ok (.if_icmp .ge 24, 3) := by decide +kernel
theorem dX8_note_18 : decode cX8_note 18 = .ok (.aload_n 0, 1) := by decide +kernel
theorem dX8_note_19 : decode cX8_note 19 = .ok (.getfield 25, 3) := by decide +kernel
theorem dX8_note_22 : decode cX8_note 22 = .ok (.iload_n 1, 1) := by decide +kernel
theorem dX8_note_23 : decode cX8_note 23 = .ok (.aload_n 0, 1) := by decide +kernel
theorem dX8_note_24 : decode cX8_note 24 = .ok (.getfield 25, 3) := by decide +kernel
theorem dX8_note_27 : decode cX8_note 27 = .ok (.iload_n 1, 1) := by decide +kernel
theorem dX8_note_28 : decode cX8_note 28 = .ok (.bipush 39, 2) := by decide +kernel
theorem dX8_note_30 : decode cX8_note 30 = .ok (.iadd, 1) := by decide +kernel
theorem dX8_note_31 : decode cX8_note 31 = .ok (.iaload, 1) := by decide +kernel
theorem dX8_note_32 : decode cX8_note 32 = .ok (.iastore, 1) := by decide +kernel
theorem dX8_note_33 : decode cX8_note 33 = .ok (.iinc 1 1, 3) := by decide +kernel
theorem dX8_note_36 : decode cX8_note 36 = .ok (.goto (-25), 3) := by decide +kernel
theorem dX8_note_39 : decode cX8_note 39 = .ok (.aload_n 0, 1) := by decide +kernel
theorem dX8_note_40 : decode cX8_note 40 = .ok (.dup, 1) := by decide +kernel
theorem dX8_note_41 : decode cX8_note 41 = .ok (.getfield 123, 3) := by decide +kernel
theorem dX8_note_44 : decode cX8_note 44 = .ok (.iconst 1, 1) := by decide +kernel
theorem dX8_note_45 : decode cX8_note 45 = .ok (.isub, 1) := by decide +kernel
theorem dX8_note_46 : decode cX8_note 46 = .ok (.putfield 123, 3) := by decide +kernel
theorem dX8_note_49 : decode cX8_note 49 = .ok (.iconst 0, 1) := by decide +kernel
theorem dX8_note_50 : decode cX8_note 50 = .ok (.istore_n 1, 1) := by decide +kernel
theorem dX8_note_51 : decode cX8_note 51 = .ok (.iload_n 1, 1) := by decide +kernel
theorem dX8_note_52 : decode cX8_note 52 = .ok (.bipush 39, 2) := by decide +kernel
theorem dX8_note_54 : decode cX8_note 54 = .ok (.if_icmp .ge 29, 3) := by decide +kernel
theorem dX8_note_57 : decode cX8_note 57 = .ok (.aload_n 0, 1) := by decide +kernel
theorem dX8_note_58 : decode cX8_note 58 = .ok (.getfield 25, 3) := by decide +kernel
theorem dX8_note_61 : decode cX8_note 61 = .ok (.bipush 39, 2) := by decide +kernel
theorem dX8_note_63 : decode cX8_note 63 = .ok (.aload_n 0, 1) := by decide +kernel
theorem dX8_note_64 : decode cX8_note 64 = .ok (.getfield 123, 3) := by decide +kernel
theorem dX8_note_67 : decode cX8_note 67 = .ok (.imul, 1) := by decide +kernel
theorem dX8_note_68 : decode cX8_note 68 = .ok (.iload_n 1, 1) := by decide +kernel
theorem dX8_note_69 : decode cX8_note 69 = .ok (.iadd, 1) := by decide +kernel
theorem dX8_note_70 : decode cX8_note 70 = .ok (.aload_n 0, 1) := by decide +kernel
theorem dX8_note_71 : decode cX8_note 71 = .ok (.getfield 16, 3) := by decide +kernel
theorem dX8_note_74 : decode cX8_note 74 = .ok (.iload_n 1, 1) := by decide +kernel
theorem dX8_note_75 : decode cX8_note 75 = .ok (.iaload, 1) := by decide +kernel
theorem dX8_note_76 : decode cX8_note 76 = .ok (.iastore, 1) := by decide +kernel
theorem dX8_note_77 : decode cX8_note 77 = .ok (.iinc 1 1, 3) := by decide +kernel
theorem dX8_note_80 : decode cX8_note 80 = .ok (.goto (-29), 3) := by decide +kernel
theorem dX8_note_83 : decode cX8_note 83 = .ok (.aload_n 0, 1) := by decide +kernel
theorem dX8_note_84 : decode cX8_note 84 = .ok (.dup, 1) := by decide +kernel
theorem dX8_note_85 : decode cX8_note 85 = .ok (.getfield 123, 3) := by decide +kernel
theorem dX8_note_88 : decode cX8_note 88 = .ok (.iconst 1, 1) := by decide +kernel
theorem dX8_note_89 : decode cX8_note 89 = .ok (.iadd, 1) := by decide +kernel
theorem dX8_note_90 : decode cX8_note 90 = .ok (.putfield 123, 3) := by decide +kernel
theorem dX8_note_93 : decode cX8_note 93 = .ok (.return_, 1) := by decide +kernel
set_option maxRecDepth 20000 in
theorem ggX8_paint_X8_noDot : GoodIn wsX8_paint wsX8_noDot := goodIn_r _ [8, 3, 9, 10, 7, 11, 12, 13, 14, 21, 22, 23, 24, 25, 26, 27, 28, 29, 30, 31, 32, 33, 34, 35, 36, 37, 38, 39, 40, 41] (by decide +kernel) (by decide +kernel)
set_option maxRecDepth 20000 in
theorem gX8_paint_X8_noDot : GoodIn wsX8_paint (wsV RX8 148 RX8 yX8_noDot wsX8_noDot) := goodIn_app (goodIn_of _ (by decide +kernel)) ggX8_paint_X8_noDot
set_option maxRecDepth 20000 in
theorem ggX8_paint_X8_in : GoodIn wsX8_paint wsX8_in := goodIn_r _ [14] (by decide +kernel) (by decide +kernel)
set_option maxRecDepth 20000 in
theorem gX8_paint_X8_in : GoodIn wsX8_paint (va_wsS RX8 59 yX8_in wsX8_in) := goodIn_app (goodIn_of _ (by decide +kernel)) ggX8_paint_X8_in
set_option maxRecDepth 20000 in
theorem ggX8_paint_X8_note : GoodIn wsX8_paint wsX8_note := goodIn_r _ [18, 19, 20, 3, 21, 22, 23, 24, 25, 26, 27, 28, 29, 30, 31, 32, 33, 34, 35, 36, 37, 38, 39, 40, 41] (by decide +kernel) (by decide +kernel)
set_option maxRecDepth 20000 in
theorem gX8_paint_X8_note : GoodIn wsX8_paint (wsV RX8 166 RX8 yX8_note wsX8_note) := goodIn_app (goodIn_of _ (by decide +kernel)) ggX8_paint_X8_note
theorem dX8_paint_0 : decode cX8_paint 0 = .ok (.aload_n 0, 1) := by decide +kernel
theorem dX8_paint_1 : decode cX8_paint 1 = .ok (.iconst 0, 1) := by decide +kernel
theorem dX8_paint_2 : decode cX8_paint 2 = .ok (.putfield 47, 3) := by decide +kernel
theorem dX8_paint_5 : decode cX8_paint 5 = .ok (.aload_n 0, 1) := by decide +kernel
theorem dX8_paint_6 : decode cX8_paint 6 = .ok (.iload_n 1, 1) := by decide +kernel
theorem dX8_paint_7 : decode cX8_paint 7 = .ok (.invokevirtual 148, 3) := by decide +kernel
theorem dX8_paint_10 : decode cX8_paint 10 = .ok (.ifCond .eq 5, 3) := by decide +kernel
theorem dX8_paint_13 : decode cX8_paint 13 = .ok (.iconst (-1), 1) := by decide +kernel
theorem dX8_paint_14 : decode cX8_paint 14 = .ok (.ireturn, 1) := by decide +kernel
theorem dX8_paint_15 : decode cX8_paint 15 = .ok (.iload_n 2, 1) := by decide +kernel
theorem dX8_paint_16 : decode cX8_paint 16 = .ok (.i2l, 1) := by decide +kernel
theorem dX8_paint_17 : decode cX8_paint 17 = .ok (.lconst 0, 1) := by decide +kernel
theorem dX8_paint_18 : decode cX8_paint 18 = .ok (.ldc2_w 117, 3) := by decide +kernel
theorem dX8_paint_21 : decode cX8_paint 21 = .ok (.invokestatic 59, 3) := by decide +kernel
theorem dX8_paint_24 : decode cX8_paint 24 = .ok (.ifCond .ne 6, 3) := by decide +kernel
theorem dX8_paint_27 : decode cX8_paint 27 = .ok (.bipush (-2), 2) := by decide +kernel
theorem dX8_paint_29 : decode cX8_paint 29 = .ok (.ireturn, 1) := by decide +kernel
theorem dX8_paint_30 : decode cX8_paint 30 = .ok (.aload_n 0, 1) := by decide +kernel
theorem dX8_paint_31 : decode cX8_paint 31 = .ok (.invokevirtual 166, 3) := by decide +kernel
theorem dX8_paint_34 : decode cX8_paint 34 = .ok (.aload_n 0, 1) := by decide +kernel
theorem dX8_paint_35 : decode cX8_paint 35 = .ok (.getfield 16, 3) := by decide +kernel
theorem dX8_paint_38 : decode cX8_paint 38 = .ok (.iconst 3, 1) := by decide +kernel
theorem dX8_paint_39 : decode cX8_paint 39 = .ok (.iload_n 1, 1) := by decide +kernel
theorem dX8_paint_40 : decode cX8_paint 40 = .ok (.iadd, 1) := by decide +kernel
theorem dX8_paint_41 : decode cX8_paint 41 = .ok (.iaload, 1) := by decide +kernel
theorem dX8_paint_42 : decode cX8_paint 42 = .ok (.istore_n 3, 1) := by decide +kernel
theorem dX8_paint_43 : decode cX8_paint 43 = .ok (.aload_n 0, 1) := by decide +kernel
theorem dX8_paint_44 : decode cX8_paint 44 = .ok (.getfield 16, 3) := by decide +kernel
theorem dX8_paint_47 : decode cX8_paint 47 = .ok (.iconst 3, 1) := by decide +kernel
theorem dX8_paint_48 : decode cX8_paint 48 = .ok (.iload_n 1, 1) := by decide +kernel
theorem dX8_paint_49 : decode cX8_paint 49 = .ok (.iadd, 1) := by decide +kernel
theorem dX8_paint_50 : decode cX8_paint 50 = .ok (.iload_n 2, 1) := by decide +kernel
theorem dX8_paint_51 : decode cX8_paint 51 = .ok (.iastore, 1) := by decide +kernel
theorem dX8_paint_52 : decode cX8_paint 52 = .ok (.iload_n 3, 1) := by decide +kernel
theorem dX8_paint_53 : decode cX8_paint 53 = .ok (.ireturn, 1) := by decide +kernel
set_option maxRecDepth 20000 in
theorem ggX8_goNegative_X8_dotsOf : GoodIn wsX8_goNegative wsX8_dotsOf := goodIn_r _ [4] (by decide +kernel) (by decide +kernel)
set_option maxRecDepth 20000 in
theorem gX8_goNegative_X8_dotsOf : GoodIn wsX8_goNegative (va_wsS RX8 55 yX8_dotsOf wsX8_dotsOf) := goodIn_app (goodIn_of _ (by decide +kernel)) ggX8_goNegative_X8_dotsOf
theorem dX8_goNegative_0 : decode cX8_goNegative 0 = .ok (.iconst 0, 1) := by decide +kernel
theorem dX8_goNegative_1 : decode cX8_goNegative 1 = .ok (.istore_n 1, 1) := by decide +kernel
theorem dX8_goNegative_2 : decode cX8_goNegative 2 = .ok (.iload_n 1, 1) := by decide +kernel
theorem dX8_goNegative_3 : decode cX8_goNegative 3 = .ok (.aload_n 0, 1) := by decide +kernel
theorem dX8_goNegative_4 : decode cX8_goNegative 4 = .ok (.invokestatic 55, 3) := by decide +kernel
theorem dX8_goNegative_7 : decode cX8_goNegative 7 = .ok (.if_icmp .ge 22, 3) := by decide +kernel
theorem dX8_goNegative_10 : decode cX8_goNegative 10 = .ok (.aload_n 0, 1) := by decide +kernel
theorem dX8_goNegative_11 : decode cX8_goNegative 11 = .ok (.iconst 3, 1) := by decide +kernel
theorem dX8_goNegative_12 : decode cX8_goNegative 12 = .ok (.iload_n 1, 1) := by decide +kernel
theorem dX8_goNegative_13 : decode cX8_goNegative 13 = .ok (.iadd, 1) := by decide +kernel
theorem dX8_goNegative_14 : decode cX8_goNegative 14 = .ok (.bipush 9, 2) := by decide +kernel
theorem dX8_goNegative_16 : decode cX8_goNegative 16 = .ok (.aload_n 0, 1) := by decide +kernel
theorem dX8_goNegative_17 : decode cX8_goNegative 17 = .ok (.iconst 3, 1) := by decide +kernel
theorem dX8_goNegative_18 : decode cX8_goNegative 18 = .ok (.iload_n 1, 1) := by decide +kernel
theorem dX8_goNegative_19 : decode cX8_goNegative 19 = .ok (.iadd, 1) := by decide +kernel
theorem dX8_goNegative_20 : decode cX8_goNegative 20 = .ok (.iaload, 1) := by decide +kernel
theorem dX8_goNegative_21 : decode cX8_goNegative 21 = .ok (.isub, 1) := by decide +kernel
theorem dX8_goNegative_22 : decode cX8_goNegative 22 = .ok (.iastore, 1) := by decide +kernel
theorem dX8_goNegative_23 : decode cX8_goNegative 23 = .ok (.iinc 1 1, 3) := by decide +kernel
theorem dX8_goNegative_26 : decode cX8_goNegative 26 = .ok (.goto (-24), 3) := by decide +kernel
theorem dX8_goNegative_29 : decode cX8_goNegative 29 = .ok (.return_, 1) := by decide +kernel
set_option maxRecDepth 20000 in
theorem ggX8_negative_X8_note : GoodIn wsX8_negative wsX8_note := goodIn_r _ [7, 8, 9, 2, 50, 51, 52, 53, 54, 55, 56, 57, 58, 59, 60, 61, 62, 63, 64, 65, 66, 67, 68, 69, 70] (by decide +kernel) (by decide +kernel)
set_option maxRecDepth 20000 in
theorem gX8_negative_X8_note : GoodIn wsX8_negative (wsV RX8 166 RX8 yX8_note wsX8_note) := goodIn_app (goodIn_of _ (by decide +kernel)) ggX8_negative_X8_note
set_option maxRecDepth 20000 in
theorem ggX8_negative_X8_goNegative : GoodIn wsX8_negative wsX8_goNegative := goodIn_r _ [12, 13, 14, 6, 15] (by decide +kernel) (by decide +kernel)
set_option maxRecDepth 20000 in
theorem gX8_negative_X8_goNegative : GoodIn wsX8_negative (va_wsS RX8 169 yX8_goNegative wsX8_goNegative) := goodIn_app (goodIn_of _ (by decide +kernel)) ggX8_negative_X8_goNegative
set_option maxRecDepth 20000 in
theorem ggX8_negative_X8_nodes : GoodIn wsX8_negative wsX8_nodes := goodIn_r _ [18, 13, 14, 6, 15, 19, 20, 21, 22, 23, 24, 25, 26, 27, 28, 29, 30, 31, 32, 33, 34, 35, 36, 37, 38, 39, 40, 41, 42, 43, 44, 45, 46, 47, 48, 49] (by decide +kernel) (by decide +kernel)
set_option maxRecDepth 20000 in
theorem gX8_negative_X8_nodes : GoodIn wsX8_negative (va_wsS RX8 126 yX8_nodes wsX8_nodes) := goodIn_app (goodIn_of _ (by decide +kernel)) ggX8_negative_X8_nodes
theorem dX8_negative_0 : decode cX8_negative 0 = .ok (.aload_n 0, 1) := by decide +kernel
theorem dX8_negative_1 : decode cX8_negative 1 = .ok (.iconst 0, 1) := by decide +kernel
theorem dX8_negative_2 : decode cX8_negative 2 = .ok (.putfield 47, 3) := by decide +kernel
theorem dX8_negative_5 : decode cX8_negative 5 = .ok (.aload_n 0, 1) := by decide +kernel
theorem dX8_negative_6 : decode cX8_negative 6 = .ok (.invokevirtual 166, 3) := by decide +kernel
theorem dX8_negative_9 : decode cX8_negative 9 = .ok (.aload_n 0, 1) := by decide +kernel
theorem dX8_negative_10 : decode cX8_negative 10 = .ok (.getfield 16, 3) := by decide +kernel
theorem dX8_negative_13 : decode cX8_negative 13 = .ok (.invokestatic 169, 3) := by decide +kernel
theorem dX8_negative_16 : decode cX8_negative 16 = .ok (.aload_n 0, 1) := by decide +kernel
theorem dX8_negative_17 : decode cX8_negative 17 = .ok (.getfield 16, 3) := by decide +kernel
theorem dX8_negative_20 : decode cX8_negative 20 = .ok (.invokestatic 126, 3) := by decide +kernel
theorem dX8_negative_23 : decode cX8_negative 23 = .ok (.ireturn, 1) := by decide +kernel
set_option maxRecDepth 20000 in
theorem ggX8_stays_X8_many : GoodIn wsX8_stays wsX8_many := goodIn_r _ [4, 5, 6, 3, 7] (by decide +kernel) (by decide +kernel)
set_option maxRecDepth 20000 in
theorem gX8_stays_X8_many : GoodIn wsX8_stays (va_wsS RX8 129 yX8_many wsX8_many) := goodIn_app (goodIn_of _ (by decide +kernel)) ggX8_stays_X8_many
set_option maxRecDepth 20000 in
theorem ggX8_stays_X8_box : GoodIn wsX8_stays wsX8_box := goodIn_r _ [10, 11, 12, 3, 13, 5, 6, 7] (by decide +kernel) (by decide +kernel)
set_option maxRecDepth 20000 in
theorem gX8_stays_X8_box : GoodIn wsX8_stays (va_wsS RX8 155 yX8_box wsX8_box) := goodIn_app (goodIn_of _ (by decide +kernel)) ggX8_stays_X8_box
theorem dX8_stays_0 : decode cX8_stays 0 = .ok (.iload_n 3, 1) := by decide +kernel
theorem dX8_stays_1 : decode cX8_stays 1 = .ok (.ifCond .ne 20, 3) := by decide +kernel
theorem dX8_stays_4 : decode cX8_stays 4 = .ok (.lload_n 1, 1) := by decide +kernel
theorem dX8_stays_5 : decode cX8_stays 5 = .ok (.invokestatic 129, 3) := by decide +kernel
theorem dX8_stays_8 : decode cX8_stays 8 = .ok (.iload 4, 2) := by decide +kernel
theorem dX8_stays_10 : decode cX8_stays 10 = .ok (.if_icmp .lt 7, 3) := by decide +kernel
theorem dX8_stays_13 : decode cX8_stays 13 = .ok (.iconst 1, 1) := by decide +kernel
theorem dX8_stays_14 : decode cX8_stays 14 = .ok (.goto 34, 3) := by decide +kernel
theorem dX8_stays_17 : decode cX8_stays 17 = .ok (.iconst 0, 1) := by decide +kernel
theorem dX8_stays_18 : decode cX8_stays 18 = .ok (.goto 30, 3) := by decide +kernel
theorem dX8_stays_21 : decode cX8_stays 21 = .ok (.aload_n 0, 1) := by decide +kernel
theorem dX8_stays_22 : decode cX8_stays 22 = .ok (.lload_n 1, 1) := by decide +kernel
theorem dX8_stays_23 : decode cX8_stays 23 = .ok (.iconst 1, 1) := by decide +kernel
theorem dX8_stays_24 : decode cX8_stays 24 = .ok (.invokestatic 155, 3) := by decide +kernel
theorem dX8_stays_27 : decode cX8_stays 27 = .ok (.iload 4, 2) := by decide +kernel
theorem dX8_stays_29 : decode cX8_stays 29 = .ok (.if_icmp .ge 14, 3) := by decide +kernel
theorem dX8_stays_32 : decode cX8_stays 32 = .ok (.aload_n 0, 1) := by decide +kernel
theorem dX8_stays_33 : decode cX8_stays 33 = .ok (.lload_n 1, 1) := by decide +kernel
theorem dX8_stays_34 : decode cX8_stays 34 = .ok (.iconst 0, 1) := by decide +kernel
theorem dX8_stays_35 : decode cX8_stays 35 = .ok (.invokestatic 155, 3) := by decide +kernel
theorem dX8_stays_38 : decode cX8_stays 38 = .ok (.iload 4, 2) := by decide +kernel
theorem dX8_stays_40 : decode cX8_stays 40 = .ok (.if_icmp .lt 7, 3) := by decide +kernel
theorem dX8_stays_43 : decode cX8_stays 43 = .ok (.iconst 1, 1) := by decide +kernel
theorem dX8_stays_44 : decode cX8_stays 44 = .ok (.goto 4, 3) := by decide +kernel
theorem dX8_stays_47 : decode cX8_stays 47 = .ok (.iconst 0, 1) := by decide +kernel
theorem dX8_stays_48 : decode cX8_stays 48 = .ok (.ireturn, 1) := by decide +kernel
set_option maxRecDepth 20000 in
theorem ggX8_sifted_X8_part : GoodIn wsX8_sifted wsX8_part := goodIn_r _ [5, 1, 6, 7, 4, 8, 9, 10, 11, 12, 13, 14, 15, 16, 17, 18, 19, 20, 21, 22, 23] (by decide +kernel) (by decide +kernel)
set_option maxRecDepth 20000 in
theorem gX8_sifted_X8_part : GoodIn wsX8_sifted (va_wsS RX8 81 yX8_part wsX8_part) := goodIn_app (goodIn_of _ (by decide +kernel)) ggX8_sifted_X8_part
set_option maxRecDepth 20000 in
theorem ggX8_sifted_X8_stays : GoodIn wsX8_sifted wsX8_stays := goodIn_r _ [26, 27, 28, 4, 29, 12, 13, 14, 30, 31, 32, 9, 10, 11] (by decide +kernel) (by decide +kernel)
set_option maxRecDepth 20000 in
theorem gX8_sifted_X8_stays : GoodIn wsX8_sifted (va_wsS RX8 173 yX8_stays wsX8_stays) := goodIn_app (goodIn_of _ (by decide +kernel)) ggX8_sifted_X8_stays
set_option maxRecDepth 20000 in
theorem ggX8_sifted_X8_level : GoodIn wsX8_sifted wsX8_level := goodIn_r _ [35, 9, 10, 4, 11, 12, 13, 14] (by decide +kernel) (by decide +kernel)
set_option maxRecDepth 20000 in
theorem gX8_sifted_X8_level : GoodIn wsX8_sifted (va_wsS RX8 84 yX8_level wsX8_level) := goodIn_app (goodIn_of _ (by decide +kernel)) ggX8_sifted_X8_level
theorem dX8_sifted_0 : decode cX8_sifted 0 = .ok (.aload_n 0, 1) := by decide +kernel
theorem dX8_sifted_1 : decode cX8_sifted 1 = .ok (.iconst 3, 1) := by decide +kernel
theorem dX8_sifted_2 : decode cX8_sifted 2 = .ok (.iload_n 1, 1) := by decide +kernel
theorem dX8_sifted_3 : decode cX8_sifted 3 = .ok (.iadd, 1) := by decide +kernel
theorem dX8_sifted_4 : decode cX8_sifted 4 = .ok (.iaload, 1) := by decide +kernel
theorem dX8_sifted_5 : decode cX8_sifted 5 = .ok (.istore 4, 2) := by decide +kernel
theorem dX8_sifted_7 : decode cX8_sifted 7 = .ok (.iload 4, 2) := by decide +kernel
theorem dX8_sifted_9 : decode cX8_sifted 9 = .ok (.ifCond .lt 36, 3) := by decide +kernel
theorem dX8_sifted_12 : decode cX8_sifted 12 = .ok (.aload_n 0, 1) := by decide +kernel
theorem dX8_sifted_13 : decode cX8_sifted 13 = .ok (.iload_n 1, 1) := by decide +kernel
theorem dX8_sifted_14 : decode cX8_sifted 14 = .ok (.iload 4, 2) := by decide +kernel
theorem dX8_sifted_16 : decode cX8_sifted 16 = .ok (.invokestatic 81, 3) := by decide +kernel
theorem dX8_sifted_19 : decode cX8_sifted 19 = .ok (.lstore 5, 2) := by decide +kernel
theorem dX8_sifted_21 : decode cX8_sifted 21 = .ok (.aload_n 0, 1) := by decide +kernel
theorem dX8_sifted_22 : decode cX8_sifted 22 = .ok (.lload 5, 2) := by decide +kernel
theorem dX8_sifted_24 : decode cX8_sifted 24 = .ok (.iload_n 2, 1) := by decide +kernel
theorem dX8_sifted_25 : decode cX8_sifted 25 = .ok (.iload_n 3, 1) := by decide +kernel
theorem dX8_sifted_26 : decode cX8_sifted 26 = .ok (.invokestatic 173, 3) := by decide +kernel
theorem dX8_sifted_29 : decode cX8_sifted 29 = .ok (.ifCond .eq 10, 3) := by decide +kernel
theorem dX8_sifted_32 : decode cX8_sifted 32 = .ok (.aload_n 0, 1) := by decide +kernel
theorem dX8_sifted_33 : decode cX8_sifted 33 = .ok (.lload 5, 2) := by decide +kernel
theorem dX8_sifted_35 : decode cX8_sifted 35 = .ok (.invokestatic 84, 3) := by decide +kernel
theorem dX8_sifted_38 : decode cX8_sifted 38 = .ok (.ireturn, 1) := by decide +kernel
theorem dX8_sifted_39 : decode cX8_sifted 39 = .ok (.iinc 4 (-1), 3) := by decide +kernel
theorem dX8_sifted_42 : decode cX8_sifted 42 = .ok (.goto (-35), 3) := by decide +kernel
theorem dX8_sifted_45 : decode cX8_sifted 45 = .ok (.aload_n 0, 1) := by decide +kernel
theorem dX8_sifted_46 : decode cX8_sifted 46 = .ok (.ldc2_w 67, 3) := by decide +kernel
theorem dX8_sifted_49 : decode cX8_sifted 49 = .ok (.invokestatic 84, 3) := by decide +kernel
theorem dX8_sifted_52 : decode cX8_sifted 52 = .ok (.ireturn, 1) := by decide +kernel
set_option maxRecDepth 20000 in
theorem ggX8_goSift_X8_dotsOf : GoodIn wsX8_goSift wsX8_dotsOf := goodIn_r _ [5] (by decide +kernel) (by decide +kernel)
set_option maxRecDepth 20000 in
theorem gX8_goSift_X8_dotsOf : GoodIn wsX8_goSift (va_wsS RX8 55 yX8_dotsOf wsX8_dotsOf) := goodIn_app (goodIn_of _ (by decide +kernel)) ggX8_goSift_X8_dotsOf
set_option maxRecDepth 20000 in
theorem ggX8_goSift_X8_sifted : GoodIn wsX8_goSift wsX8_sifted := goodIn_r _ [8, 9, 10, 11, 4, 12, 13, 14, 15, 2, 3, 5, 16, 17, 18, 19, 20, 21, 22, 23, 24, 25, 26, 27, 28, 29, 30, 31, 32, 33, 34, 35, 36, 37, 38, 39] (by decide +kernel) (by decide +kernel)
set_option maxRecDepth 20000 in
theorem gX8_goSift_X8_sifted : GoodIn wsX8_goSift (va_wsS RX8 177 yX8_sifted wsX8_sifted) := goodIn_app (goodIn_of _ (by decide +kernel)) ggX8_goSift_X8_sifted
theorem dX8_goSift_0 : decode cX8_goSift 0 = .ok (.iconst 0, 1) := by decide +kernel
theorem dX8_goSift_1 : decode cX8_goSift 1 = .ok (.istore 4, 2) := by decide +kernel
theorem dX8_goSift_3 : decode cX8_goSift 3 = .ok (.iconst 0, 1) := by decide +kernel
theorem dX8_goSift_4 : decode cX8_goSift 4 = .ok (.istore 5, 2) := by decide +kernel
theorem dX8_goSift_6 : decode cX8_goSift 6 = .ok (.iload 5, 2) := by decide +kernel
theorem dX8_goSift_8 : decode cX8_goSift 8 = .ok (.aload_n 1, 1) := by decide +kernel
theorem dX8_goSift_9 : decode cX8_goSift 9 = .ok (.invokestatic 55, 3) := by decide +kernel
theorem dX8_goSift_12 : decode cX8_goSift 12 = .ok (.if_icmp .ge 50, 3) := by decide +kernel
theorem dX8_goSift_15 : decode cX8_goSift 15 = .ok (.aload_n 0, 1) := by decide +kernel
theorem dX8_goSift_16 : decode cX8_goSift 16 = .ok (.getfield 22, 3) := by decide +kernel
theorem dX8_goSift_19 : decode cX8_goSift 19 = .ok (.iload 5, 2) := by decide +kernel
theorem dX8_goSift_21 : decode cX8_goSift 21 = .ok (.aload_n 1, 1) := by decide +kernel
theorem dX8_goSift_22 : decode cX8_goSift 22 = .ok (.iload 5, 2) := by decide +kernel
theorem dX8_goSift_24 : decode cX8_goSift 24 = .ok (.iload_n 2, 1) := by decide +kernel
theorem dX8_goSift_25 : decode cX8_goSift 25 = .ok (.iload_n 3, 1) := by decide +kernel
theorem dX8_goSift_26 : decode cX8_goSift 26 = .ok (.invokestatic 177, 3) := by decide +kernel
theorem dX8_goSift_29 : decode cX8_goSift 29 = .ok (.iastore, 1) := by decide +kernel
theorem dX8_goSift_30 : decode cX8_goSift 30 = .ok (.iload 4, 2) := by decide +kernel
theorem dX8_goSift_32 : decode cX8_goSift 32 = .ok (.aload_n 0, 1) := by decide +kernel
theorem dX8_goSift_33 : decode cX8_goSift 33 = .ok (.getfield 22, 3) := by decide +kernel
theorem dX8_goSift_36 : decode cX8_goSift 36 = .ok (.iload 5, 2) := by decide +kernel
theorem dX8_goSift_38 : decode cX8_goSift 38 = .ok (.iaload, 1) := by decide +kernel
theorem dX8_goSift_39 : decode cX8_goSift 39 = .ok (.aload_n 1, 1) := by decide +kernel
theorem dX8_goSift_40 : decode cX8_goSift 40 = .ok (.iconst 3, 1) := by decide +kernel
theorem dX8_goSift_41 : decode cX8_goSift 41 = .ok (.iload 5, 2) := by decide +kernel
theorem dX8_goSift_43 : decode cX8_goSift 43 = .ok (.iadd, 1) := by decide +kernel
theorem dX8_goSift_44 : decode cX8_goSift 44 = .ok (.iaload, 1) := by decide +kernel
theorem dX8_goSift_45 : decode cX8_goSift 45 = .ok (.if_icmp .ne 7, 3) := by decide +kernel
theorem dX8_goSift_48 : decode cX8_goSift 48 = .ok (.iconst 0, 1) := by decide +kernel
theorem dX8_goSift_49 : decode cX8_goSift 49 = .ok (.goto 4, 3) := by decide +kernel
theorem dX8_goSift_52 : decode cX8_goSift 52 = .ok (.iconst 1, 1) := by decide +kernel
theorem dX8_goSift_53 : decode cX8_goSift 53 = .ok (.iadd, 1) := by decide +kernel
theorem dX8_goSift_54 : decode cX8_goSift 54 = .ok (.istore 4, 2) := by decide +kernel
theorem dX8_goSift_56 : decode cX8_goSift 56 = .ok (.iinc 5 1, 3) := by decide +kernel
theorem dX8_goSift_59 : decode cX8_goSift 59 = .ok (.goto (-53), 3) := by decide +kernel
theorem dX8_goSift_62 : decode cX8_goSift 62 = .ok (.iconst 0, 1) := by decide +kernel
theorem dX8_goSift_63 : decode cX8_goSift 63 = .ok (.istore 5, 2) := by decide +kernel
theorem dX8_goSift_65 : decode cX8_goSift 65 = .ok (.iload 5, 2) := by decide +kernel
theorem dX8_goSift_67 : decode cX8_goSift 67 = .ok (.aload_n 1, 1) := by decide +kernel
theorem dX8_goSift_68 : decode cX8_goSift 68 = .ok (.invokestatic 55, 3) := by decide +kernel
theorem dX8_goSift_71 : decode cX8_goSift 71 = .ok (.if_icmp .ge 22, 3) := by decide +kernel
theorem dX8_goSift_74 : decode cX8_goSift 74 = .ok (.aload_n 1, 1) := by decide +kernel
theorem dX8_goSift_75 : decode cX8_goSift 75 = .ok (.iconst 3, 1) := by decide +kernel
theorem dX8_goSift_76 : decode cX8_goSift 76 = .ok (.iload 5, 2) := by decide +kernel
theorem dX8_goSift_78 : decode cX8_goSift 78 = .ok (.iadd, 1) := by decide +kernel
theorem dX8_goSift_79 : decode cX8_goSift 79 = .ok (.aload_n 0, 1) := by decide +kernel
theorem dX8_goSift_80 : decode cX8_goSift 80 = .ok (.getfield 22, 3) := by decide +kernel
theorem dX8_goSift_83 : decode cX8_goSift 83 = .ok (.iload 5, 2) := by decide +kernel
theorem dX8_goSift_85 : decode cX8_goSift 85 = .ok (.iaload, 1) := by decide +kernel
theorem dX8_goSift_86 : decode cX8_goSift 86 = .ok (.iastore, 1) := by decide +kernel
theorem dX8_goSift_87 : decode cX8_goSift 87 = .ok (.iinc 5 1, 3) := by decide +kernel
theorem dX8_goSift_90 : decode cX8_goSift 90 = .ok (.goto (-25), 3) := by decide +kernel
theorem dX8_goSift_93 : decode cX8_goSift 93 = .ok (.iload 4, 2) := by decide +kernel
theorem dX8_goSift_95 : decode cX8_goSift 95 = .ok (.ireturn, 1) := by decide +kernel
set_option maxRecDepth 20000 in
theorem ggX8_sift_X8_in : GoodIn wsX8_sift wsX8_in := goodIn_r _ [8] (by decide +kernel) (by decide +kernel)
set_option maxRecDepth 20000 in
theorem gX8_sift_X8_in : GoodIn wsX8_sift (va_wsS RX8 59 yX8_in wsX8_in) := goodIn_app (goodIn_of _ (by decide +kernel)) ggX8_sift_X8_in
set_option maxRecDepth 20000 in
theorem ggX8_sift_X8_note : GoodIn wsX8_sift wsX8_note := goodIn_r _ [12, 13, 14, 4, 57, 58, 59, 60, 61, 62, 63, 64, 65, 66, 67, 68, 69, 70, 71, 72, 73, 74, 75, 76, 77] (by decide +kernel) (by decide +kernel)
set_option maxRecDepth 20000 in
theorem gX8_sift_X8_note : GoodIn wsX8_sift (wsV RX8 166 RX8 yX8_note wsX8_note) := goodIn_app (goodIn_of _ (by decide +kernel)) ggX8_sift_X8_note
set_option maxRecDepth 20000 in
theorem ggX8_sift_X8_goSift : GoodIn wsX8_sift wsX8_goSift := goodIn_r _ [18, 19, 20, 21, 7, 22, 23, 24, 25, 26, 27, 28, 29, 30, 31, 32, 33, 34, 35, 36, 37, 38, 39, 40, 41, 42, 43, 44, 45, 46, 47, 48, 49, 50, 51, 52, 53, 54, 55, 56, 57, 58, 59, 60, 61, 62, 63, 64, 65, 66, 67, 68, 69, 70, 71, 72, 73, 74, 75, 76, 77] (by decide +kernel) (by decide +kernel)
set_option maxRecDepth 20000 in
theorem gX8_sift_X8_goSift : GoodIn wsX8_sift (wsV RX8 183 RX8 yX8_goSift wsX8_goSift) := goodIn_app (goodIn_of _ (by decide +kernel)) ggX8_sift_X8_goSift
theorem dX8_sift_0 : decode cX8_sift 0 = .ok (.aload_n 0, 1) := by decide +kernel
theorem dX8_sift_1 : decode cX8_sift 1 = .ok (.iconst 0, 1) := by decide +kernel
theorem dX8_sift_2 : decode cX8_sift 2 = .ok (.putfield 47, 3) := by decide +kernel
theorem dX8_sift_5 : decode cX8_sift 5 = .ok (.iload_n 1, 1) := by decide +kernel
theorem dX8_sift_6 : decode cX8_sift 6 = .ok (.i2l, 1) := by decide +kernel
theorem dX8_sift_7 : decode cX8_sift 7 = .ok (.lconst 0, 1) := by decide +kernel
theorem dX8_sift_8 : decode cX8_sift 8 = .ok (.lconst 1, 1) := by decide +kernel
theorem dX8_sift_9 : decode cX8_sift 9 = .ok (.invokestatic 59, 3) := by decide +kernel
theorem dX8_sift_12 : decode cX8_sift 12 = .ok (.ifCond .eq 25, 3) := by decide +kernel
theorem dX8_sift_15 : decode cX8_sift 15 = .ok (.iload_n 2, 1) := by decide +kernel
theorem dX8_sift_16 : decode cX8_sift 16 = .ok (.i2l, 1) := by decide +kernel
theorem dX8_sift_17 : decode cX8_sift 17 = .ok (.lconst 1, 1) := by decide +kernel
theorem dX8_sift_18 : decode cX8_sift 18 = .ok (.iload_n 1, 1) := by decide +kernel
theorem dX8_sift_19 : decode cX8_sift 19 = .ok (.ifCond .ne 9, 3) := by decide +kernel
theorem dX8_sift_22 : decode cX8_sift 22 = .ok (.ldc2_w 181, 3) := by decide +kernel
theorem dX8_sift_25 : decode cX8_sift 25 = .ok (.goto 6, 3) := by decide +kernel
theorem dX8_sift_28 : decode cX8_sift 28 = .ok (.ldc2_w 115, 3) := by decide +kernel
theorem dX8_sift_31 : decode cX8_sift 31 = .ok (.invokestatic 59, 3) := by decide +kernel
theorem dX8_sift_34 : decode cX8_sift 34 = .ok (.ifCond .ne 6, 3) := by decide +kernel
theorem dX8_sift_37 : decode cX8_sift 37 = .ok (.bipush (-2), 2) := by decide +kernel
theorem dX8_sift_39 : decode cX8_sift 39 = .ok (.ireturn, 1) := by decide +kernel
theorem dX8_sift_40 : decode cX8_sift 40 = .ok (.aload_n 0, 1) := by decide +kernel
theorem dX8_sift_41 : decode cX8_sift 41 = .ok (.invokevirtual 166, 3) := by decide +kernel
theorem dX8_sift_44 : decode cX8_sift 44 = .ok (.aload_n 0, 1) := by decide +kernel
theorem dX8_sift_45 : decode cX8_sift 45 = .ok (.aload_n 0, 1) := by decide +kernel
theorem dX8_sift_46 : decode cX8_sift 46 = .ok (.getfield 16, 3) := by decide +kernel
theorem dX8_sift_49 : decode cX8_sift 49 = .ok (.iload_n 1, 1) := by decide +kernel
theorem dX8_sift_50 : decode cX8_sift 50 = .ok (.iload_n 2, 1) := by decide +kernel
theorem dX8_sift_51 : decode cX8_sift 51 = .ok (.invokevirtual 183, 3) := by decide +kernel
theorem dX8_sift_54 : decode cX8_sift 54 = .ok (.ireturn, 1) := by decide +kernel
theorem dX8_undo_0 : decode cX8_undo 0 = .ok (.aload_n 0, 1) := by decide +kernel
theorem dX8_undo_1 : decode cX8_undo 1 = .ok (.iconst 0, 1) := by decide +kernel
theorem dX8_undo_2 : decode cX8_undo 2 = .ok (.putfield 47, 3) := by decide +kernel
theorem dX8_undo_5 : decode cX8_undo 5 = .ok (.aload_n 0, 1) := by decide +kernel
theorem dX8_undo_6 : decode cX8_undo 6 = .ok (.getfield 123, 3) := by decide +kernel
theorem dX8_undo_9 : decode cX8_undo 9 = .ok (.ifCond .ne 6, 3) := by decide +kernel
theorem dX8_undo_12 : decode cX8_undo 12 = .ok (.bipush (-3), 2) := by decide +kernel
theorem dX8_undo_14 : decode cX8_undo 14 = .ok (.ireturn, 1) := by decide +kernel
theorem dX8_undo_15 : decode cX8_undo 15 = .ok (.aload_n 0, 1) := by decide +kernel
theorem dX8_undo_16 : decode cX8_undo 16 = .ok (.dup, 1) := by decide +kernel
theorem dX8_undo_17 : decode cX8_undo 17 = .ok (.getfield 123, 3) := by decide +kernel
theorem dX8_undo_20 : decode cX8_undo 20 = .ok (.iconst 1, 1) := by decide +kernel
theorem dX8_undo_21 : decode cX8_undo 21 = .ok (.isub, 1) := by decide +kernel
theorem dX8_undo_22 : decode cX8_undo 22 = .ok (.putfield 123, 3) := by decide +kernel
theorem dX8_undo_25 : decode cX8_undo 25 = .ok (.iconst 0, 1) := by decide +kernel
theorem dX8_undo_26 : decode cX8_undo 26 = .ok (.istore_n 1, 1) := by decide +kernel
theorem dX8_undo_27 : decode cX8_undo 27 = .ok (.iload_n 1, 1) := by decide +kernel
theorem dX8_undo_28 : decode cX8_undo 28 = .ok (.bipush 39, 2) := by decide +kernel
theorem dX8_undo_30 : decode cX8_undo 30 = .ok (.if_icmp .ge 29, 3) := by decide +kernel
theorem dX8_undo_33 : decode cX8_undo 33 = .ok (.aload_n 0, 1) := by decide +kernel
theorem dX8_undo_34 : decode cX8_undo 34 = .ok (.getfield 16, 3) := by decide +kernel
theorem dX8_undo_37 : decode cX8_undo 37 = .ok (.iload_n 1, 1) := by decide +kernel
theorem dX8_undo_38 : decode cX8_undo 38 = .ok (.aload_n 0, 1) := by decide +kernel
theorem dX8_undo_39 : decode cX8_undo 39 = .ok (.getfield 25, 3) := by decide +kernel
theorem dX8_undo_42 : decode cX8_undo 42 = .ok (.bipush 39, 2) := by decide +kernel
theorem dX8_undo_44 : decode cX8_undo 44 = .ok (.aload_n 0, 1) := by decide +kernel
theorem dX8_undo_45 : decode cX8_undo 45 = .ok (.getfield 123, 3) := by decide +kernel
theorem dX8_undo_48 : decode cX8_undo 48 = .ok (.imul, 1) := by decide +kernel
theorem dX8_undo_49 : decode cX8_undo 49 = .ok (.iload_n 1, 1) := by decide +kernel
theorem dX8_undo_50 : decode cX8_undo 50 = .ok (.iadd, 1) := by decide +kernel
theorem dX8_undo_51 : decode cX8_undo 51 = .ok (.iaload, 1) := by decide +kernel
theorem dX8_undo_52 : decode cX8_undo 52 = .ok (.iastore, 1) := by decide +kernel
theorem dX8_undo_53 : decode cX8_undo 53 = .ok (.iinc 1 1, 3) := by decide +kernel
theorem dX8_undo_56 : decode cX8_undo 56 = .ok (.goto (-29), 3) := by decide +kernel
theorem dX8_undo_59 : decode cX8_undo 59 = .ok (.aload_n 0, 1) := by decide +kernel
theorem dX8_undo_60 : decode cX8_undo 60 = .ok (.getfield 123, 3) := by decide +kernel
theorem dX8_undo_63 : decode cX8_undo 63 = .ok (.ireturn, 1) := by decide +kernel
set_option maxRecDepth 20000 in
theorem ggX8_pass_X8_noDot : GoodIn wsX8_pass wsX8_noDot := goodIn_r _ [7, 2, 8, 9, 6, 10, 11, 12, 13, 33, 34, 35, 36, 37, 38, 39, 40, 41, 42, 43, 44, 45, 46, 47, 48, 49, 50, 51, 52, 53] (by decide +kernel) (by decide +kernel)
set_option maxRecDepth 20000 in
theorem gX8_pass_X8_noDot : GoodIn wsX8_pass (wsV RX8 148 RX8 yX8_noDot wsX8_noDot) := goodIn_app (goodIn_of _ (by decide +kernel)) ggX8_pass_X8_noDot
set_option maxRecDepth 20000 in
theorem ggX8_pass_X8_part : GoodIn wsX8_pass wsX8_part := goodIn_r _ [16, 17, 18, 19, 6, 20, 8, 9, 10, 21, 22, 23, 24, 25, 26, 27, 28, 29, 30, 31, 32] (by decide +kernel) (by decide +kernel)
set_option maxRecDepth 20000 in
theorem gX8_pass_X8_part : GoodIn wsX8_pass (va_wsS RX8 81 yX8_part wsX8_part) := goodIn_app (goodIn_of _ (by decide +kernel)) ggX8_pass_X8_part
set_option maxRecDepth 20000 in
theorem ggX8_pass_X8_has : GoodIn wsX8_pass wsX8_has := goodIn_r _ [23] (by decide +kernel) (by decide +kernel)
set_option maxRecDepth 20000 in
theorem gX8_pass_X8_has : GoodIn wsX8_pass (va_wsS RX8 51 yX8_has wsX8_has) := goodIn_app (goodIn_of _ (by decide +kernel)) ggX8_pass_X8_has
theorem dX8_pass_0 : decode cX8_pass 0 = .ok (.aload_n 0, 1) := by decide +kernel
theorem dX8_pass_1 : decode cX8_pass 1 = .ok (.iconst 0, 1) := by decide +kernel
theorem dX8_pass_2 : decode cX8_pass 2 = .ok (.putfield 47, 3) := by decide +kernel
theorem dX8_pass_5 : decode cX8_pass 5 = .ok (.aload_n 0, 1) := by decide +kernel
theorem dX8_pass_6 : decode cX8_pass 6 = .ok (.iload_n 1, 1) := by decide +kernel
theorem dX8_pass_7 : decode cX8_pass 7 = .ok (.invokevirtual 148, 3) := by decide +kernel
theorem dX8_pass_10 : decode cX8_pass 10 = .ok (.ifCond .ne 11, 3) := by decide +kernel
theorem dX8_pass_13 : decode cX8_pass 13 = .ok (.aload_n 0, 1) := by decide +kernel
theorem dX8_pass_14 : decode cX8_pass 14 = .ok (.iload_n 2, 1) := by decide +kernel
theorem dX8_pass_15 : decode cX8_pass 15 = .ok (.invokevirtual 148, 3) := by decide +kernel
theorem dX8_pass_18 : decode cX8_pass 18 = .ok (.ifCond .eq 5, 3) := by decide +kernel
theorem dX8_pass_21 : decode cX8_pass 21 = .ok (.iconst (-1), 1) := by decide +kernel
theorem dX8_pass_22 : decode cX8_pass 22 = .ok (.ireturn, 1) := by decide +kernel
theorem dX8_pass_23 : decode cX8_pass 23 = .ok (.bipush 9, 2) := by decide +kernel
theorem dX8_pass_25 : decode cX8_pass 25 = .ok (.istore_n 3, 1) := by decide +kernel
theorem dX8_pass_26 : decode cX8_pass 26 = .ok (.aload_n 0, 1) := by decide +kernel
theorem dX8_pass_27 : decode cX8_pass 27 = .ok (.getfield 16, 3) := by decide +kernel
theorem dX8_pass_30 : decode cX8_pass 30 = .ok (.iload_n 1, 1) := by decide +kernel
theorem dX8_pass_31 : decode cX8_pass 31 = .ok (.iload_n 3, 1) := by decide +kernel
theorem dX8_pass_32 : decode cX8_pass 32 = .ok (.invokestatic 81, 3) := by decide +kernel
theorem dX8_pass_35 : decode cX8_pass 35 = .ok (.iload_n 2, 1) := by decide +kernel
theorem dX8_pass_36 : decode cX8_pass 36 = .ok (.invokestatic 51, 3) := by decide +kernel
theorem dX8_pass_39 : decode cX8_pass 39 = .ok (.ifCond .ne 9, 3) := by decide +kernel
theorem dX8_pass_42 : decode cX8_pass 42 = .ok (.iinc 3 (-1), 3) := by decide +kernel
theorem dX8_pass_45 : decode cX8_pass 45 = .ok (.goto (-19), 3) := by decide +kernel
theorem dX8_pass_48 : decode cX8_pass 48 = .ok (.iload_n 3, 1) := by decide +kernel
theorem dX8_pass_49 : decode cX8_pass 49 = .ok (.ireturn, 1) := by decide +kernel
theorem dX8_divisor_0 : decode cX8_divisor 0 = .ok (.iload_n 0, 1) := by decide +kernel
theorem dX8_divisor_1 : decode cX8_divisor 1 = .ok (.ifCond .ge 8, 3) := by decide +kernel
theorem dX8_divisor_4 : decode cX8_divisor 4 = .ok (.iload_n 0, 1) := by decide +kernel
theorem dX8_divisor_5 : decode cX8_divisor 5 = .ok (.ineg, 1) := by decide +kernel
theorem dX8_divisor_6 : decode cX8_divisor 6 = .ok (.goto 4, 3) := by decide +kernel
theorem dX8_divisor_9 : decode cX8_divisor 9 = .ok (.iload_n 0, 1) := by decide +kernel
theorem dX8_divisor_10 : decode cX8_divisor 10 = .ok (.istore_n 2, 1) := by decide +kernel
theorem dX8_divisor_11 : decode cX8_divisor 11 = .ok (.iload_n 1, 1) := by decide +kernel
theorem dX8_divisor_12 : decode cX8_divisor 12 = .ok (.istore_n 3, 1) := by decide +kernel
theorem dX8_divisor_13 : decode cX8_divisor 13 = .ok (.iload_n 3, 1) := by decide +kernel
theorem dX8_divisor_14 : decode cX8_divisor 14 = .ok (.ifCond .eq 16, 3) := by decide +kernel
theorem dX8_divisor_17 : decode cX8_divisor 17 = .ok (.iload_n 2, 1) := by decide +kernel
theorem dX8_divisor_18 : decode cX8_divisor 18 = .ok (.iload_n 3, 1) := by decide +kernel
theorem dX8_divisor_19 : decode cX8_divisor 19 = .ok (.irem, 1) := by decide +kernel
theorem dX8_divisor_20 : decode cX8_divisor 20 = .ok (.istore 4, 2) := by decide +kernel
theorem dX8_divisor_22 : decode cX8_divisor 22 = .ok (.iload_n 3, 1) := by decide +kernel
theorem dX8_divisor_23 : decode cX8_divisor 23 = .ok (.istore_n 2, 1) := by decide +kernel
theorem dX8_divisor_24 : decode cX8_divisor 24 = .ok (.iload 4, 2) := by decide +kernel
theorem dX8_divisor_26 : decode cX8_divisor 26 = .ok (.istore_n 3, 1) := by decide +kernel
theorem dX8_divisor_27 : decode cX8_divisor 27 = .ok (.goto (-14), 3) := by decide +kernel
theorem dX8_divisor_30 : decode cX8_divisor 30 = .ok (.iload_n 2, 1) := by decide +kernel
theorem dX8_divisor_31 : decode cX8_divisor 31 = .ok (.ireturn, 1) := by decide +kernel
set_option maxRecDepth 20000 in
theorem ggX8_fraction_X8_divisor : GoodIn wsX8_fraction wsX8_divisor := goodIn_r _ [4] (by decide +kernel) (by decide +kernel)
set_option maxRecDepth 20000 in
theorem gX8_fraction_X8_divisor : GoodIn wsX8_fraction (va_wsS RX8 187 yX8_divisor wsX8_divisor) := goodIn_app (goodIn_of _ (by decide +kernel)) ggX8_fraction_X8_divisor
theorem dX8_fraction_0 : decode cX8_fraction 0 = .ok (.iload_n 0, 1) := by decide +kernel
theorem dX8_fraction_1 : decode cX8_fraction 1 = .ok (.iload_n 1, 1) := by decide +kernel
theorem dX8_fraction_2 : decode cX8_fraction 2 = .ok (.invokestatic 187, 3) := by decide +kernel
theorem dX8_fraction_5 : decode cX8_fraction 5 = .ok (.istore_n 3, 1) := by decide +kernel
theorem dX8_fraction_6 : decode cX8_fraction 6 = .ok (.iload_n 2, 1) := by decide +kernel
theorem dX8_fraction_7 : decode cX8_fraction 7 = .ok (.ifCond .eq 9, 3) := by decide +kernel
theorem dX8_fraction_10 : decode cX8_fraction 10 = .ok (.iload_n 0, 1) := by decide +kernel
theorem dX8_fraction_11 : decode cX8_fraction 11 = .ok (.iload_n 3, 1) := by decide +kernel
theorem dX8_fraction_12 : decode cX8_fraction 12 = .ok (.idiv, 1) := by decide +kernel
theorem dX8_fraction_13 : decode cX8_fraction 13 = .ok (.goto 6, 3) := by decide +kernel
theorem dX8_fraction_16 : decode cX8_fraction 16 = .ok (.iload_n 1, 1) := by decide +kernel
theorem dX8_fraction_17 : decode cX8_fraction 17 = .ok (.iload_n 3, 1) := by decide +kernel
theorem dX8_fraction_18 : decode cX8_fraction 18 = .ok (.idiv, 1) := by decide +kernel
theorem dX8_fraction_19 : decode cX8_fraction 19 = .ok (.ireturn, 1) := by decide +kernel
set_option maxRecDepth 20000 in
theorem ggX8_layGrown_X8_level : GoodIn wsX8_layGrown wsX8_level := goodIn_r _ [7, 8, 9, 6, 10, 11, 12, 13] (by decide +kernel) (by decide +kernel)
set_option maxRecDepth 20000 in
theorem gX8_layGrown_X8_level : GoodIn wsX8_layGrown (va_wsS RX8 84 yX8_level wsX8_level) := goodIn_app (goodIn_of _ (by decide +kernel)) ggX8_layGrown_X8_level
set_option maxRecDepth 20000 in
theorem ggX8_layGrown_X8_head : GoodIn wsX8_layGrown wsX8_head := goodIn_r _ [16, 4, 5, 6, 7, 8, 9, 10, 11, 12, 13] (by decide +kernel) (by decide +kernel)
set_option maxRecDepth 20000 in
theorem gX8_layGrown_X8_head : GoodIn wsX8_layGrown (va_wsS RX8 88 yX8_head wsX8_head) := goodIn_app (goodIn_of _ (by decide +kernel)) ggX8_layGrown_X8_head
set_option maxRecDepth 20000 in
theorem ggX8_layGrown_X8_part : GoodIn wsX8_layGrown wsX8_part := goodIn_r _ [19, 20, 21, 22, 6, 23, 8, 9, 10, 11, 12, 13, 24, 25, 26, 27, 28, 29, 30, 31, 32] (by decide +kernel) (by decide +kernel)
set_option maxRecDepth 20000 in
theorem gX8_layGrown_X8_part : GoodIn wsX8_layGrown (va_wsS RX8 81 yX8_part wsX8_part) := goodIn_app (goodIn_of _ (by decide +kernel)) ggX8_layGrown_X8_part
set_option maxRecDepth 20000 in
theorem ggX8_layGrown_X8_many : GoodIn wsX8_layGrown wsX8_many := goodIn_r _ [35, 11, 12, 6, 13] (by decide +kernel) (by decide +kernel)
set_option maxRecDepth 20000 in
theorem gX8_layGrown_X8_many : GoodIn wsX8_layGrown (va_wsS RX8 129 yX8_many wsX8_many) := goodIn_app (goodIn_of _ (by decide +kernel)) ggX8_layGrown_X8_many
theorem dX8_layGrown_0 : decode cX8_layGrown 0 = .ok (.aload_n 0, 1) := by decide +kernel
theorem dX8_layGrown_1 : decode cX8_layGrown 1 = .ok (.getfield 16, 3) := by decide +kernel
theorem dX8_layGrown_4 : decode cX8_layGrown 4 = .ok (.lload_n 1, 1) := by decide +kernel
theorem dX8_layGrown_5 : decode cX8_layGrown 5 = .ok (.invokestatic 84, 3) := by decide +kernel
theorem dX8_layGrown_8 : decode cX8_layGrown 8 = .ok (.iload_n 3, 1) := by decide +kernel
theorem dX8_layGrown_9 : decode cX8_layGrown 9 = .ok (.isub, 1) := by decide +kernel
theorem dX8_layGrown_10 : decode cX8_layGrown 10 = .ok (.istore 4, 2) := by decide +kernel
theorem dX8_layGrown_12 : decode cX8_layGrown 12 = .ok (.aload_n 0, 1) := by decide +kernel
theorem dX8_layGrown_13 : decode cX8_layGrown 13 = .ok (.aload_n 0, 1) := by decide +kernel
theorem dX8_layGrown_14 : decode cX8_layGrown 14 = .ok (.getfield 16, 3) := by decide +kernel
theorem dX8_layGrown_17 : decode cX8_layGrown 17 = .ok (.aload_n 0, 1) := by decide +kernel
theorem dX8_layGrown_18 : decode cX8_layGrown 18 = .ok (.getfield 16, 3) := by decide +kernel
theorem dX8_layGrown_21 : decode cX8_layGrown 21 = .ok (.lload_n 1, 1) := by decide +kernel
theorem dX8_layGrown_22 : decode cX8_layGrown 22 = .ok (.invokestatic 88, 3) := by decide +kernel
theorem dX8_layGrown_25 : decode cX8_layGrown 25 = .ok (.iload 4, 2) := by decide +kernel
theorem dX8_layGrown_27 : decode cX8_layGrown 27 = .ok (.ifCond .ge 7, 3) := by decide +kernel
theorem dX8_layGrown_30 : decode cX8_layGrown 30 = .ok (.iconst 0, 1) := by decide +kernel
theorem dX8_layGrown_31 : decode cX8_layGrown 31 = .ok (.goto 5, 3) := by decide +kernel
theorem dX8_layGrown_34 : decode cX8_layGrown 34 = .ok (.iload 4, 2) := by decide +kernel
theorem dX8_layGrown_36 : decode cX8_layGrown 36 = .ok (.invokestatic 81, 3) := by decide +kernel
theorem dX8_layGrown_39 : decode cX8_layGrown 39 = .ok (.invokestatic 129, 3) := by decide +kernel
theorem dX8_layGrown_42 : decode cX8_layGrown 42 = .ok (.lload_n 1, 1) := by decide +kernel
theorem dX8_layGrown_43 : decode cX8_layGrown 43 = .ok (.invokestatic 129, 3) := by decide +kernel
theorem dX8_layGrown_46 : decode cX8_layGrown 46 = .ok (.isub, 1) := by decide +kernel
theorem dX8_layGrown_47 : decode cX8_layGrown 47 = .ok (.putfield 191, 3) := by decide +kernel
theorem dX8_layGrown_50 : decode cX8_layGrown 50 = .ok (.aload_n 0, 1) := by decide +kernel
theorem dX8_layGrown_51 : decode cX8_layGrown 51 = .ok (.lload_n 1, 1) := by decide +kernel
theorem dX8_layGrown_52 : decode cX8_layGrown 52 = .ok (.invokestatic 129, 3) := by decide +kernel
theorem dX8_layGrown_55 : decode cX8_layGrown 55 = .ok (.putfield 194, 3) := by decide +kernel
theorem dX8_layGrown_58 : decode cX8_layGrown 58 = .ok (.return_, 1) := by decide +kernel
set_option maxRecDepth 20000 in
theorem ggX8_grows_X8_noDot : GoodIn wsX8_grows wsX8_noDot := goodIn_r _ [10, 3, 11, 12, 9, 13, 14, 15, 16, 58, 59, 60, 61, 62, 63, 64, 65, 66, 67, 68, 69, 70, 71, 72, 73, 74, 75, 76, 77, 78] (by decide +kernel) (by decide +kernel)
set_option maxRecDepth 20000 in
theorem gX8_grows_X8_noDot : GoodIn wsX8_grows (wsV RX8 148 RX8 yX8_noDot wsX8_noDot) := goodIn_app (goodIn_of _ (by decide +kernel)) ggX8_grows_X8_noDot
set_option maxRecDepth 20000 in
theorem ggX8_grows_X8_in : GoodIn wsX8_grows wsX8_in := goodIn_r _ [16] (by decide +kernel) (by decide +kernel)
set_option maxRecDepth 20000 in
theorem gX8_grows_X8_in : GoodIn wsX8_grows (va_wsS RX8 59 yX8_in wsX8_in) := goodIn_app (goodIn_of _ (by decide +kernel)) ggX8_grows_X8_in
set_option maxRecDepth 20000 in
theorem ggX8_grows_X8_nodeOf : GoodIn wsX8_grows wsX8_nodeOf := goodIn_r _ [19, 20, 21, 9, 22, 23, 24, 25, 26, 11, 12, 13, 27, 28, 29, 30, 31, 32, 33, 34, 35, 36, 37, 38] (by decide +kernel) (by decide +kernel)
set_option maxRecDepth 20000 in
theorem gX8_grows_X8_nodeOf : GoodIn wsX8_grows (va_wsS RX8 91 yX8_nodeOf wsX8_nodeOf) := goodIn_app (goodIn_of _ (by decide +kernel)) ggX8_grows_X8_nodeOf
set_option maxRecDepth 20000 in
theorem ggX8_grows_X8_layGrown : GoodIn wsX8_grows wsX8_layGrown := goodIn_r _ [42, 3, 4, 5, 43, 44, 9, 45, 11, 12, 13, 27, 28, 29, 46, 47, 48, 20, 21, 22, 23, 24, 25, 26, 30, 31, 32, 33, 34, 35, 36, 37, 38, 49, 50, 51, 58, 59, 60, 61, 62, 63, 64, 65, 66, 67, 68, 69, 70, 71, 72, 73, 74, 75, 76, 77, 78] (by decide +kernel) (by decide +kernel)
set_option maxRecDepth 20000 in
theorem gX8_grows_X8_layGrown : GoodIn wsX8_grows (wsV RX8 197 RX8 yX8_layGrown wsX8_layGrown) := goodIn_app (goodIn_of _ (by decide +kernel)) ggX8_grows_X8_layGrown
set_option maxRecDepth 20000 in
theorem ggX8_grows_X8_fraction : GoodIn wsX8_grows wsX8_fraction := goodIn_r _ [54, 55, 56, 9, 57] (by decide +kernel) (by decide +kernel)
set_option maxRecDepth 20000 in
theorem gX8_grows_X8_fraction : GoodIn wsX8_grows (va_wsS RX8 201 yX8_fraction wsX8_fraction) := goodIn_app (goodIn_of _ (by decide +kernel)) ggX8_grows_X8_fraction
theorem dX8_grows_0 : decode cX8_grows 0 = .ok (.aload_n 0, 1) := by decide +kernel
theorem dX8_grows_1 : decode cX8_grows 1 = .ok (.iconst 0, 1) := by decide +kernel
theorem dX8_grows_2 : decode cX8_grows 2 = .ok (.putfield 47, 3) := by decide +kernel
theorem dX8_grows_5 : decode cX8_grows 5 = .ok (.aload_n 0, 1) := by decide +kernel
theorem dX8_grows_6 : decode cX8_grows 6 = .ok (.iload_n 1, 1) := by decide +kernel
theorem dX8_grows_7 : decode cX8_grows 7 = .ok (.invokevirtual 148, 3) := by decide +kernel
theorem dX8_grows_10 : decode cX8_grows 10 = .ok (.ifCond .eq 5, 3) := by decide +kernel
theorem dX8_grows_13 : decode cX8_grows 13 = .ok (.iconst (-1), 1) := by decide +kernel
theorem dX8_grows_14 : decode cX8_grows 14 = .ok (.ireturn, 1) := by decide +kernel
theorem dX8_grows_15 : decode cX8_grows 15 = .ok (.iload_n 2, 1) := by decide +kernel
theorem dX8_grows_16 : decode cX8_grows 16 = .ok (.i2l, 1) := by decide +kernel
theorem dX8_grows_17 : decode cX8_grows 17 = .ok (.lconst 1, 1) := by decide +kernel
theorem dX8_grows_18 : decode cX8_grows 18 = .ok (.ldc2_w 117, 3) := by decide +kernel
theorem dX8_grows_21 : decode cX8_grows 21 = .ok (.invokestatic 59, 3) := by decide +kernel
theorem dX8_grows_24 : decode cX8_grows 24 = .ok (.ifCond .ne 6, 3) := by decide +kernel
theorem dX8_grows_27 : decode cX8_grows 27 = .ok (.bipush (-2), 2) := by decide +kernel
theorem dX8_grows_29 : decode cX8_grows 29 = .ok (.ireturn, 1) := by decide +kernel
theorem dX8_grows_30 : decode cX8_grows 30 = .ok (.aload_n 0, 1) := by decide +kernel
theorem dX8_grows_31 : decode cX8_grows 31 = .ok (.aload_n 0, 1) := by decide +kernel
theorem dX8_grows_32 : decode cX8_grows 32 = .ok (.getfield 16, 3) := by decide +kernel
theorem dX8_grows_35 : decode cX8_grows 35 = .ok (.iload_n 1, 1) := by decide +kernel
theorem dX8_grows_36 : decode cX8_grows 36 = .ok (.invokestatic 91, 3) := by decide +kernel
theorem dX8_grows_39 : decode cX8_grows 39 = .ok (.iload_n 2, 1) := by decide +kernel
theorem dX8_grows_40 : decode cX8_grows 40 = .ok (.invokevirtual 197, 3) := by decide +kernel
theorem dX8_grows_43 : decode cX8_grows 43 = .ok (.aload_n 0, 1) := by decide +kernel
theorem dX8_grows_44 : decode cX8_grows 44 = .ok (.getfield 191, 3) := by decide +kernel
theorem dX8_grows_47 : decode cX8_grows 47 = .ok (.aload_n 0, 1) := by decide +kernel
theorem dX8_grows_48 : decode cX8_grows 48 = .ok (.getfield 194, 3) := by decide +kernel
theorem dX8_grows_51 : decode cX8_grows 51 = .ok (.iload_n 3, 1) := by decide +kernel
theorem dX8_grows_52 : decode cX8_grows 52 = .ok (.invokestatic 201, 3) := by decide +kernel
theorem dX8_grows_55 : decode cX8_grows 55 = .ok (.ireturn, 1) := by decide +kernel
set_option maxRecDepth 20000 in
theorem ggX8_growsLess_X8_layGrown : GoodIn wsX8_growsLess wsX8_layGrown := goodIn_r _ [7, 8, 1, 2, 9, 10, 6, 11, 12, 13, 14, 15, 16, 17, 18, 19, 20, 21, 22, 23, 24, 25, 26, 27, 28, 29, 30, 31, 32, 33, 34, 35, 36, 37, 38, 39, 40, 41, 42, 43, 44, 45, 46, 47, 48, 49, 50, 51, 52, 53, 54, 55, 56, 57, 58, 59, 60] (by decide +kernel) (by decide +kernel)
set_option maxRecDepth 20000 in
theorem gX8_growsLess_X8_layGrown : GoodIn wsX8_growsLess (wsV RX8 197 RX8 yX8_layGrown wsX8_layGrown) := goodIn_app (goodIn_of _ (by decide +kernel)) ggX8_growsLess_X8_layGrown
theorem dX8_growsLess_0 : decode cX8_growsLess 0 = .ok (.aload_n 0, 1) := by decide +kernel
theorem dX8_growsLess_1 : decode cX8_growsLess 1 = .ok (.lload_n 1, 1) := by decide +kernel
theorem dX8_growsLess_2 : decode cX8_growsLess 2 = .ok (.iload 5, 2) := by decide +kernel
theorem dX8_growsLess_4 : decode cX8_growsLess 4 = .ok (.invokevirtual 197, 3) := by decide +kernel
theorem dX8_growsLess_7 : decode cX8_growsLess 7 = .ok (.aload_n 0, 1) := by decide +kernel
theorem dX8_growsLess_8 : decode cX8_growsLess 8 = .ok (.getfield 191, 3) := by decide +kernel
theorem dX8_growsLess_11 : decode cX8_growsLess 11 = .ok (.istore 6, 2) := by decide +kernel
theorem dX8_growsLess_13 : decode cX8_growsLess 13 = .ok (.aload_n 0, 1) := by decide +kernel
theorem dX8_growsLess_14 : decode cX8_growsLess 14 = .ok (.getfield 194, 3) := by decide +kernel
theorem dX8_growsLess_17 : decode cX8_growsLess 17 = .ok (.istore 7, 2) := by decide +kernel
theorem dX8_growsLess_19 : decode cX8_growsLess 19 = .ok (.aload_n 0, 1) := by decide +kernel
theorem dX8_growsLess_20 : decode cX8_growsLess 20 = .ok (.lload_n 3, 1) := by decide +kernel
theorem dX8_growsLess_21 : decode cX8_growsLess 21 = .ok (.iload 5, 2) := by decide +kernel
theorem dX8_growsLess_23 : decode cX8_growsLess 23 = .ok (.invokevirtual 197, 3) := by decide +kernel
theorem dX8_growsLess_26 : decode cX8_growsLess 26 = .ok (.iload 6, 2) := by decide +kernel
theorem dX8_growsLess_28 : decode cX8_growsLess 28 = .ok (.aload_n 0, 1) := by decide +kernel
theorem dX8_growsLess_29 : decode cX8_growsLess 29 = .ok (.getfield 194, 3) := by decide +kernel
theorem dX8_growsLess_32 : decode cX8_growsLess 32 = .ok (.imul, 1) := by decide +kernel
theorem dX8_growsLess_33 : decode cX8_growsLess 33 = .ok (.aload_n 0, 1) := by decide +kernel
theorem dX8_growsLess_34 : decode cX8_growsLess 34 = .ok (.getfield 191, 3) := by decide +kernel
theorem dX8_growsLess_37 : decode cX8_growsLess 37 = .ok (.iload 7, 2) := by decide +kernel
theorem dX8_growsLess_39 : decode cX8_growsLess 39 = .ok (.imul, 1) := by decide +kernel
theorem dX8_growsLess_40 : decode cX8_growsLess 40 = .ok (.if_icmp .gt 7, 3) := by decide +kernel
theorem dX8_growsLess_43 : decode cX8_growsLess 43 = .ok (.iconst 1, 1) := by decide +kernel
theorem dX8_growsLess_44 : decode cX8_growsLess 44 = .ok (.goto 4, 3) := by decide +kernel
theorem dX8_growsLess_47 : decode cX8_growsLess 47 = .ok (.iconst 0, 1) := by decide +kernel
theorem dX8_growsLess_48 : decode cX8_growsLess 48 = .ok (.ireturn, 1) := by decide +kernel
set_option maxRecDepth 20000 in
theorem ggX8_isSteady_X8_parent : GoodIn wsX8_isSteady wsX8_parent := goodIn_r _ [5, 6, 7, 4, 8, 9, 10, 11, 12, 13, 14, 15, 16, 17, 18, 19, 20, 21, 22, 23, 24, 25, 26, 27, 28, 29, 30, 31, 32, 33] (by decide +kernel) (by decide +kernel)
set_option maxRecDepth 20000 in
theorem gX8_isSteady_X8_parent : GoodIn wsX8_isSteady (va_wsS RX8 99 yX8_parent wsX8_parent) := goodIn_app (goodIn_of _ (by decide +kernel)) ggX8_isSteady_X8_parent
set_option maxRecDepth 20000 in
theorem ggX8_isSteady_X8_growsLess : GoodIn wsX8_isSteady wsX8_growsLess := goodIn_r _ [37, 38, 39, 40, 41, 42, 4, 43, 1, 9, 10, 11, 12, 13, 14, 15, 16, 17, 6, 7, 8, 18, 19, 20, 21, 22, 23, 24, 25, 26, 27, 28, 29, 30, 31, 32, 33, 44, 45, 46, 53, 54, 55, 56, 57, 58, 59, 60, 61, 62, 63, 64, 65, 66, 67, 68, 69, 70, 71, 72, 73] (by decide +kernel) (by decide +kernel)
set_option maxRecDepth 20000 in
theorem gX8_isSteady_X8_growsLess : GoodIn wsX8_isSteady (wsV RX8 205 RX8 yX8_growsLess wsX8_growsLess) := goodIn_app (goodIn_of _ (by decide +kernel)) ggX8_isSteady_X8_growsLess
set_option maxRecDepth 20000 in
theorem ggX8_isSteady_X8_dotsOf : GoodIn wsX8_isSteady wsX8_dotsOf := goodIn_r _ [14] (by decide +kernel) (by decide +kernel)
set_option maxRecDepth 20000 in
theorem gX8_isSteady_X8_dotsOf : GoodIn wsX8_isSteady (va_wsS RX8 55 yX8_dotsOf wsX8_dotsOf) := goodIn_app (goodIn_of _ (by decide +kernel)) ggX8_isSteady_X8_dotsOf
set_option maxRecDepth 20000 in
theorem ggX8_isSteady_X8_has : GoodIn wsX8_isSteady wsX8_has := goodIn_r _ [17] (by decide +kernel) (by decide +kernel)
set_option maxRecDepth 20000 in
theorem gX8_isSteady_X8_has : GoodIn wsX8_isSteady (va_wsS RX8 51 yX8_has wsX8_has) := goodIn_app (goodIn_of _ (by decide +kernel)) ggX8_isSteady_X8_has
set_option maxRecDepth 20000 in
theorem ggX8_isSteady_X8_isHead : GoodIn wsX8_isSteady wsX8_isHead := goodIn_r _ [49, 50, 51, 4, 52, 18, 19, 20, 21, 22, 23, 24, 12, 13, 14, 15, 16, 17, 25, 26, 27, 28, 29, 30, 31, 32, 33, 6, 7, 8, 9, 10, 11] (by decide +kernel) (by decide +kernel)
set_option maxRecDepth 20000 in
theorem gX8_isSteady_X8_isHead : GoodIn wsX8_isSteady (va_wsS RX8 95 yX8_isHead wsX8_isHead) := goodIn_app (goodIn_of _ (by decide +kernel)) ggX8_isSteady_X8_isHead
set_option maxRecDepth 20000 in
theorem ggX8_isSteady_X8_nodeOf : GoodIn wsX8_isSteady wsX8_nodeOf := goodIn_r _ [52, 18, 19, 4, 20, 21, 22, 23, 24, 12, 13, 14, 15, 16, 17, 25, 26, 27, 28, 29, 30, 31, 32, 33] (by decide +kernel) (by decide +kernel)
set_option maxRecDepth 20000 in
theorem gX8_isSteady_X8_nodeOf : GoodIn wsX8_isSteady (va_wsS RX8 91 yX8_nodeOf wsX8_nodeOf) := goodIn_app (goodIn_of _ (by decide +kernel)) ggX8_isSteady_X8_nodeOf
theorem dX8_isSteady_0 : decode cX8_isSteady 0 = .ok (.aload_n 0, 1) := by decide +kernel
theorem dX8_isSteady_1 : decode cX8_isSteady 1 = .ok (.getfield 16, 3) := by decide +kernel
theorem dX8_isSteady_4 : decode cX8_isSteady 4 = .ok (.lload_n 1, 1) := by decide +kernel
theorem dX8_isSteady_5 : decode cX8_isSteady 5 = .ok (.invokestatic 99, 3) := by decide +kernel
theorem dX8_isSteady_8 : decode cX8_isSteady 8 = .ok (.lstore 4, 2) := by decide +kernel
theorem dX8_isSteady_10 : decode cX8_isSteady 10 = .ok (.aload_n 0, 1) := by decide +kernel
theorem dX8_isSteady_11 : decode cX8_isSteady 11 = .ok (.lload_n 1, 1) := by decide +kernel
theorem dX8_isSteady_12 : decode cX8_isSteady 12 = .ok (.lload 4, 2) := by decide +kernel
theorem dX8_isSteady_14 : decode cX8_isSteady 14 = .ok (.iload_n 3, 1) := by decide +kernel
theorem dX8_isSteady_15 : decode cX8_isSteady 15 = .ok (.invokevirtual 205, 3) := by decide +kernel
theorem dX8_isSteady_18 : decode cX8_isSteady 18 = .ok (.istore 6, 2) := by decide +kernel
theorem dX8_isSteady_20 : decode cX8_isSteady 20 = .ok (.iconst 0, 1) := by decide +kernel
theorem dX8_isSteady_21 : decode cX8_isSteady 21 = .ok (.istore 7, 2) := by decide +kernel
theorem dX8_isSteady_23 : decode cX8_isSteady 23 = .ok (.iload 7, 2) := by decide +kernel
theorem dX8_isSteady_25 : decode cX8_isSteady 25 = .ok (.aload_n 0, 1) := by decide +kernel
theorem dX8_isSteady_26 : decode cX8_isSteady 26 = .ok (.getfield 16, 3) := by decide +kernel
theorem dX8_isSteady_29 : decode cX8_isSteady 29 = .ok (.invokestatic 55, 3) := by decide +kernel
theorem dX8_isSteady_32 : decode cX8_isSteady 32 = .ok (.if_icmp .ge 85, 3) := by decide +kernel
theorem dX8_isSteady_35 : decode cX8_isSteady 35 = .ok (.lload_n 1, 1) := by decide +kernel
theorem dX8_isSteady_36 : decode cX8_isSteady 36 = .ok (.iload 7, 2) := by decide +kernel
theorem dX8_isSteady_38 : decode cX8_isSteady 38 = .ok (.invokestatic 51, 3) := by decide +kernel
theorem dX8_isSteady_41 : decode cX8_isSteady 41 = .ok (.ifCond .eq 70, 3) := by decide +kernel
theorem dX8_isSteady_44 : decode cX8_isSteady 44 = .ok (.aload_n 0, 1) := by decide +kernel
theorem dX8_isSteady_45 : decode cX8_isSteady 45 = .ok (.getfield 16, 3) := by decide +kernel
theorem dX8_isSteady_48 : decode cX8_isSteady 48 = .ok (.iload 7, 2) := by decide +kernel
theorem dX8_isSteady_50 : decode cX8_isSteady 50 = .ok (.invokestatic 95, 3) := by decide +kernel
theorem dX8_isSteady_53 : decode cX8_isSteady 53 = .ok (.ifCond .eq 58, 3) := by decide +kernel
theorem dX8_isSteady_56 : decode cX8_isSteady 56 = .ok (.aload_n 0, 1) := by decide +kernel
theorem dX8_isSteady_57 : decode cX8_isSteady 57 = .ok (.getfield 16, 3) := by decide +kernel
theorem dX8_isSteady_60 : decode cX8_isSteady 60 = .ok (.iload 7, 2) := by decide +kernel
theorem dX8_isSteady_62 : decode cX8_isSteady 62 = .ok (.invokestatic 91, 3) := by decide +kernel
theorem dX8_isSteady_65 : decode cX8_isSteady 65 = .ok (.lstore 8, 2) := by decide +kernel
theorem dX8_isSteady_67 : decode cX8_isSteady 67 = .ok (.iload 6, 2) := by decide +kernel
theorem dX8_isSteady_69 : decode cX8_isSteady 69 = .ok (.ifCond .eq 39, 3) := by decide +kernel
theorem dX8_isSteady_72 : decode cX8_isSteady 72 = .ok (.lload 8, 2) := by decide +kernel
theorem dX8_isSteady_74 : decode cX8_isSteady 74 = .ok (.lload_n 1, 1) := by decide +kernel
theorem dX8_isSteady_75 : decode cX8_isSteady 75 = .ok (.lcmp, 1) := by decide +kernel
theorem dX8_isSteady_76 : decode cX8_isSteady 76 = .ok (.ifCond .eq 28, 3) := by decide +kernel
theorem dX8_isSteady_79 : decode cX8_isSteady 79 = .ok (.aload_n 0, 1) := by decide +kernel
theorem dX8_isSteady_80 : decode cX8_isSteady 80 = .ok (.getfield 16, 3) := by decide +kernel
theorem dX8_isSteady_83 : decode cX8_isSteady 83 = .ok (.lload 8, 2) := by decide +kernel
theorem dX8_isSteady_85 : decode cX8_isSteady 85 = .ok (.invokestatic 99, 3) := by decide +kernel
theorem dX8_isSteady_88 : decode cX8_isSteady 88 = .ok (.lload_n 1, 1) := by decide +kernel
theorem dX8_isSteady_89 : decode cX8_isSteady 89 = .ok (.lcmp, 1) := by decide +kernel
theorem dX8_isSteady_90 : decode cX8_isSteady 90 = .ok (.ifCond .ne 14, 3) := by decide +kernel
theorem dX8_isSteady_93 : decode cX8_isSteady 93 = .ok (.aload_n 0, 1) := by decide +kernel
theorem dX8_isSteady_94 : decode cX8_isSteady 94 = .ok (.lload_n 1, 1) := by decide +kernel
theorem dX8_isSteady_95 : decode cX8_isSteady 95 = .ok (.lload 8, 2) := by decide +kernel
theorem dX8_isSteady_97 : decode cX8_isSteady 97 = .ok (.iload_n 3, 1) := by decide +kernel
theorem dX8_isSteady_98 : decode cX8_isSteady 98 = .ok (.invokevirtual 205, 3) := by decide +kernel
theorem dX8_isSteady_101 : decode cX8_isSteady 101 = .ok (.ifCond .eq 7, 3) := by decide +kernel
theorem dX8_isSteady_104 : decode cX8_isSteady 104 = .ok (.iconst 1, 1) := by decide +kernel
theorem dX8_isSteady_105 : decode cX8_isSteady 105 = .ok (.goto 4, 3) := by decide +kernel
theorem dX8_isSteady_108 : decode cX8_isSteady 108 = .ok (.iconst 0, 1) := by decide +kernel
theorem dX8_isSteady_109 : decode cX8_isSteady 109 = .ok (.istore 6, 2) := by decide +kernel
theorem dX8_isSteady_111 : decode cX8_isSteady 111 = .ok (.iinc 7 1, 3) := by decide +kernel
theorem dX8_isSteady_114 : decode cX8_isSteady 114 = .ok (.goto (-91), 3) := by decide +kernel
theorem dX8_isSteady_117 : decode cX8_isSteady 117 = .ok (.iload 6, 2) := by decide +kernel
theorem dX8_isSteady_119 : decode cX8_isSteady 119 = .ok (.ireturn, 1) := by decide +kernel
set_option maxRecDepth 20000 in
theorem ggX8_steady_X8_noDot : GoodIn wsX8_steady wsX8_noDot := goodIn_r _ [8, 3, 9, 10, 7, 11, 12, 13, 14, 66, 67, 68, 69, 70, 71, 72, 73, 74, 75, 76, 77, 78, 79, 80, 81, 82, 83, 84, 85, 86] (by decide +kernel) (by decide +kernel)
set_option maxRecDepth 20000 in
theorem gX8_steady_X8_noDot : GoodIn wsX8_steady (wsV RX8 148 RX8 yX8_noDot wsX8_noDot) := goodIn_app (goodIn_of _ (by decide +kernel)) ggX8_steady_X8_noDot
set_option maxRecDepth 20000 in
theorem ggX8_steady_X8_in : GoodIn wsX8_steady wsX8_in := goodIn_r _ [14] (by decide +kernel) (by decide +kernel)
set_option maxRecDepth 20000 in
theorem gX8_steady_X8_in : GoodIn wsX8_steady (va_wsS RX8 59 yX8_in wsX8_in) := goodIn_app (goodIn_of _ (by decide +kernel)) ggX8_steady_X8_in
set_option maxRecDepth 20000 in
theorem ggX8_steady_X8_nodeOf : GoodIn wsX8_steady wsX8_nodeOf := goodIn_r _ [17, 18, 19, 7, 20, 21, 22, 23, 24, 9, 10, 11, 25, 26, 27, 28, 29, 30, 31, 32, 33, 34, 35, 36] (by decide +kernel) (by decide +kernel)
set_option maxRecDepth 20000 in
theorem gX8_steady_X8_nodeOf : GoodIn wsX8_steady (va_wsS RX8 91 yX8_nodeOf wsX8_nodeOf) := goodIn_app (goodIn_of _ (by decide +kernel)) ggX8_steady_X8_nodeOf
set_option maxRecDepth 20000 in
theorem ggX8_steady_X8_isSteady : GoodIn wsX8_steady wsX8_isSteady := goodIn_r _ [40, 3, 41, 42, 7, 43, 44, 45, 46, 47, 48, 49, 9, 10, 11, 25, 26, 27, 18, 19, 20, 21, 22, 23, 24, 28, 29, 30, 31, 32, 33, 34, 35, 36, 50, 51, 52, 53, 54, 55, 56, 57, 58, 59, 60, 61, 62, 63, 64, 65, 15, 16, 17, 66, 67, 68, 69, 70, 71, 72, 73, 74, 75, 76, 77, 78, 79, 80, 81, 82, 83, 84, 85, 86] (by decide +kernel) (by decide +kernel)
set_option maxRecDepth 20000 in
theorem gX8_steady_X8_isSteady : GoodIn wsX8_steady (wsV RX8 209 RX8 yX8_isSteady wsX8_isSteady) := goodIn_app (goodIn_of _ (by decide +kernel)) ggX8_steady_X8_isSteady
theorem dX8_steady_0 : decode cX8_steady 0 = .ok (.aload_n 0, 1) := by decide +kernel
theorem dX8_steady_1 : decode cX8_steady 1 = .ok (.iconst 0, 1) := by decide +kernel
theorem dX8_steady_2 : decode cX8_steady 2 = .ok (.putfield 47, 3) := by decide +kernel
theorem dX8_steady_5 : decode cX8_steady 5 = .ok (.aload_n 0, 1) := by decide +kernel
theorem dX8_steady_6 : decode cX8_steady 6 = .ok (.iload_n 1, 1) := by decide +kernel
theorem dX8_steady_7 : decode cX8_steady 7 = .ok (.invokevirtual 148, 3) := by decide +kernel
theorem dX8_steady_10 : decode cX8_steady 10 = .ok (.ifCond .eq 5, 3) := by decide +kernel
theorem dX8_steady_13 : decode cX8_steady 13 = .ok (.iconst (-1), 1) := by decide +kernel
theorem dX8_steady_14 : decode cX8_steady 14 = .ok (.ireturn, 1) := by decide +kernel
theorem dX8_steady_15 : decode cX8_steady 15 = .ok (.iload_n 2, 1) := by decide +kernel
theorem dX8_steady_16 : decode cX8_steady 16 = .ok (.i2l, 1) := by decide +kernel
theorem dX8_steady_17 : decode cX8_steady 17 = .ok (.lconst 1, 1) := by decide +kernel
theorem dX8_steady_18 : decode cX8_steady 18 = .ok (.ldc2_w 117, 3) := by decide +kernel
theorem dX8_steady_21 : decode cX8_steady 21 = .ok (.invokestatic 59, 3) := by decide +kernel
theorem dX8_steady_24 : decode cX8_steady 24 = .ok (.ifCond .ne 6, 3) := by decide +kernel
theorem dX8_steady_27 : decode cX8_steady 27 = .ok (.bipush (-2), 2) := by decide +kernel
theorem dX8_steady_29 : decode cX8_steady 29 = .ok (.ireturn, 1) := by decide +kernel
theorem dX8_steady_30 : decode cX8_steady 30 = .ok (.aload_n 0, 1) := by decide +kernel
theorem dX8_steady_31 : decode cX8_steady 31 = .ok (.aload_n 0, 1) := by decide +kernel
theorem dX8_steady_32 : decode cX8_steady 32 = .ok (.getfield 16, 3) := by decide +kernel
theorem dX8_steady_35 : decode cX8_steady 35 = .ok (.iload_n 1, 1) := by decide +kernel
theorem dX8_steady_36 : decode cX8_steady 36 = .ok (.invokestatic 91, 3) := by decide +kernel
theorem dX8_steady_39 : decode cX8_steady 39 = .ok (.iload_n 2, 1) := by decide +kernel
theorem dX8_steady_40 : decode cX8_steady 40 = .ok (.invokevirtual 209, 3) := by decide +kernel
theorem dX8_steady_43 : decode cX8_steady 43 = .ok (.ifCond .eq 7, 3) := by decide +kernel
theorem dX8_steady_46 : decode cX8_steady 46 = .ok (.iconst 1, 1) := by decide +kernel
theorem dX8_steady_47 : decode cX8_steady 47 = .ok (.goto 4, 3) := by decide +kernel
theorem dX8_steady_50 : decode cX8_steady 50 = .ok (.iconst 0, 1) := by decide +kernel
theorem dX8_steady_51 : decode cX8_steady 51 = .ok (.ireturn, 1) := by decide +kernel
theorem dX8_begin_0 : decode cX8_begin 0 = .ok (.iconst 0, 1) := by decide +kernel
theorem dX8_begin_1 : decode cX8_begin 1 = .ok (.istore_n 1, 1) := by decide +kernel
theorem dX8_begin_2 : decode cX8_begin 2 = .ok (.iload_n 1, 1) := by decide +kernel
theorem dX8_begin_3 : decode cX8_begin 3 = .ok (.bipush 39, 2) := by decide +kernel
theorem dX8_begin_5 : decode cX8_begin 5 = .ok (.if_icmp .ge 21, 3) := by decide +kernel
theorem dX8_begin_8 : decode cX8_begin 8 = .ok (.aload_n 0, 1) := by decide +kernel
theorem dX8_begin_9 : decode cX8_begin 9 = .ok (.getfield 19, 3) := by decide +kernel
theorem dX8_begin_12 : decode cX8_begin 12 = .ok (.iload_n 1, 1) := by decide +kernel
theorem dX8_begin_13 : decode cX8_begin 13 = .ok (.aload_n 0, 1) := by decide +kernel
theorem dX8_begin_14 : decode cX8_begin 14 = .ok (.getfield 16, 3) := by decide +kernel
theorem dX8_begin_17 : decode cX8_begin 17 = .ok (.iload_n 1, 1) := by decide +kernel
theorem dX8_begin_18 : decode cX8_begin 18 = .ok (.iaload, 1) := by decide +kernel
theorem dX8_begin_19 : decode cX8_begin 19 = .ok (.iastore, 1) := by decide +kernel
theorem dX8_begin_20 : decode cX8_begin 20 = .ok (.iinc 1 1, 3) := by decide +kernel
theorem dX8_begin_23 : decode cX8_begin 23 = .ok (.goto (-21), 3) := by decide +kernel
theorem dX8_begin_26 : decode cX8_begin 26 = .ok (.return_, 1) := by decide +kernel
theorem dX8_longPower_0 : decode cX8_longPower 0 = .ok (.lconst 1, 1) := by decide +kernel
theorem dX8_longPower_1 : decode cX8_longPower 1 = .ok (.lstore_n 3, 1) := by decide +kernel
theorem dX8_longPower_2 : decode cX8_longPower 2 = .ok (.iconst 0, 1) := by decide +kernel
theorem dX8_longPower_3 : decode cX8_longPower 3 = .ok (.istore 5, 2) := by decide +kernel
theorem dX8_longPower_5 : decode cX8_longPower 5 = .ok (.iload 5, 2) := by decide +kernel
theorem dX8_longPower_7 : decode cX8_longPower 7 = .ok (.iload_n 2, 1) := by decide +kernel
theorem dX8_longPower_8 : decode cX8_longPower 8 = .ok (.if_icmp .ge 13, 3) := by decide +kernel
theorem dX8_longPower_11 : decode cX8_longPower 11 = .ok (.lload_n 3, 1) := by decide +kernel
theorem dX8_longPower_12 : decode cX8_longPower 12 = .ok (.lload_n 0, 1) := by decide +kernel
theorem dX8_longPower_13 : decode cX8_longPower 13 = .ok (.lmul, 1) := by decide +kernel
theorem dX8_longPower_14 : decode cX8_longPower 14 = .ok (.lstore_n 3, 1) := by decide +kernel
theorem dX8_longPower_15 : decode cX8_longPower 15 = .ok (.iinc 5 1, 3) := by decide +kernel
theorem dX8_longPower_18 : decode cX8_longPower 18 = .ok (.goto (-13), 3) := by decide +kernel
theorem dX8_longPower_21 : decode cX8_longPower 21 = .ok (.lload_n 3, 1) := by decide +kernel
theorem dX8_longPower_22 : decode cX8_longPower 22 = .ok (.lreturn, 1) := by decide +kernel
set_option maxRecDepth 20000 in
theorem ggX8_isSo_X8_partsOf : GoodIn wsX8_isSo wsX8_partsOf := goodIn_r _ [6, 2, 7, 8, 5, 9, 10, 11, 12, 13, 14, 15, 16, 17, 18, 19, 20, 21, 22, 23, 24] (by decide +kernel) (by decide +kernel)
set_option maxRecDepth 20000 in
theorem gX8_isSo_X8_partsOf : GoodIn wsX8_isSo (va_wsS RX8 162 yX8_partsOf wsX8_partsOf) := goodIn_app (goodIn_of _ (by decide +kernel)) ggX8_isSo_X8_partsOf
set_option maxRecDepth 20000 in
theorem ggX8_isSo_X8_dotsOf : GoodIn wsX8_isSo wsX8_dotsOf := goodIn_r _ [12] (by decide +kernel) (by decide +kernel)
set_option maxRecDepth 20000 in
theorem gX8_isSo_X8_dotsOf : GoodIn wsX8_isSo (va_wsS RX8 55 yX8_dotsOf wsX8_dotsOf) := goodIn_app (goodIn_of _ (by decide +kernel)) ggX8_isSo_X8_dotsOf
set_option maxRecDepth 20000 in
theorem ggX8_isSo_X8_nodeOf : GoodIn wsX8_isSo wsX8_nodeOf := goodIn_r _ [27, 28, 29, 5, 30, 2, 7, 8, 9, 10, 11, 12, 13, 14, 15, 16, 17, 18, 19, 20, 21, 22, 23, 24] (by decide +kernel) (by decide +kernel)
set_option maxRecDepth 20000 in
theorem gX8_isSo_X8_nodeOf : GoodIn wsX8_isSo (va_wsS RX8 91 yX8_nodeOf wsX8_nodeOf) := goodIn_app (goodIn_of _ (by decide +kernel)) ggX8_isSo_X8_nodeOf
set_option maxRecDepth 20000 in
theorem ggX8_isSo_X8_parent : GoodIn wsX8_isSo wsX8_parent := goodIn_r _ [33, 34, 35, 5, 36, 37, 38, 39, 10, 11, 12, 13, 14, 15, 28, 29, 30, 2, 7, 8, 9, 16, 17, 18, 19, 20, 21, 22, 23, 24] (by decide +kernel) (by decide +kernel)
set_option maxRecDepth 20000 in
theorem gX8_isSo_X8_parent : GoodIn wsX8_isSo (va_wsS RX8 99 yX8_parent wsX8_parent) := goodIn_app (goodIn_of _ (by decide +kernel)) ggX8_isSo_X8_parent
set_option maxRecDepth 20000 in
theorem ggX8_isSo_X8_level : GoodIn wsX8_isSo wsX8_level := goodIn_r _ [39, 10, 11, 5, 12, 13, 14, 15] (by decide +kernel) (by decide +kernel)
set_option maxRecDepth 20000 in
theorem gX8_isSo_X8_level : GoodIn wsX8_isSo (va_wsS RX8 84 yX8_level wsX8_level) := goodIn_app (goodIn_of _ (by decide +kernel)) ggX8_isSo_X8_level
set_option maxRecDepth 20000 in
theorem ggX8_isSo_X8_rise : GoodIn wsX8_isSo wsX8_rise := goodIn_r _ [42, 37, 38, 5, 39, 10, 11, 12, 13, 14, 15, 43, 44, 45, 34, 35, 36, 28, 29, 30, 2, 7, 8, 9, 16, 17, 18, 19, 20, 21, 22, 23, 24] (by decide +kernel) (by decide +kernel)
set_option maxRecDepth 20000 in
theorem gX8_isSo_X8_rise : GoodIn wsX8_isSo (va_wsS RX8 159 yX8_rise wsX8_rise) := goodIn_app (goodIn_of _ (by decide +kernel)) ggX8_isSo_X8_rise
theorem dX8_isSo_0 : decode cX8_isSo 0 = .ok (.iload_n 1, 1) := by decide +kernel
theorem dX8_isSo_1 : decode cX8_isSo 1 = .ok (.bipush 6, 2) := by decide +kernel
theorem dX8_isSo_3 : decode cX8_isSo 3 = .ok (.if_icmp .ne 24, 3) := by decide +kernel
theorem dX8_isSo_6 : decode cX8_isSo 6 = .ok (.aload_n 0, 1) := by decide +kernel
theorem dX8_isSo_7 : decode cX8_isSo 7 = .ok (.getfield 19, 3) := by decide +kernel
theorem dX8_isSo_10 : decode cX8_isSo 10 = .ok (.iload_n 3, 1) := by decide +kernel
theorem dX8_isSo_11 : decode cX8_isSo 11 = .ok (.ldc2_w 67, 3) := by decide +kernel
theorem dX8_isSo_14 : decode cX8_isSo 14 = .ok (.invokestatic 162, 3) := by decide +kernel
theorem dX8_isSo_17 : decode cX8_isSo 17 = .ok (.iload_n 2, 1) := by decide +kernel
theorem dX8_isSo_18 : decode cX8_isSo 18 = .ok (.if_icmp .lt 7, 3) := by decide +kernel
theorem dX8_isSo_21 : decode cX8_isSo 21 = .ok (.iconst 1, 1) := by decide +kernel
theorem dX8_isSo_22 : decode cX8_isSo 22 = .ok (.goto 4, 3) := by decide +kernel
theorem dX8_isSo_25 : decode cX8_isSo 25 = .ok (.iconst 0, 1) := by decide +kernel
theorem dX8_isSo_26 : decode cX8_isSo 26 = .ok (.ireturn, 1) := by decide +kernel
theorem dX8_isSo_27 : decode cX8_isSo 27 = .ok (.iload_n 2, 1) := by decide +kernel
theorem dX8_isSo_28 : decode cX8_isSo 28 = .ok (.aload_n 0, 1) := by decide +kernel
theorem dX8_isSo_29 : decode cX8_isSo 29 = .ok (.getfield 19, 3) := by decide +kernel
theorem dX8_isSo_32 : decode cX8_isSo 32 = .ok (.invokestatic 55, 3) := by decide +kernel
theorem dX8_isSo_35 : decode cX8_isSo 35 = .ok (.if_icmp .lt 5, 3) := by decide +kernel
theorem dX8_isSo_38 : decode cX8_isSo 38 = .ok (.iconst 0, 1) := by decide +kernel
theorem dX8_isSo_39 : decode cX8_isSo 39 = .ok (.ireturn, 1) := by decide +kernel
theorem dX8_isSo_40 : decode cX8_isSo 40 = .ok (.aload_n 0, 1) := by decide +kernel
theorem dX8_isSo_41 : decode cX8_isSo 41 = .ok (.getfield 19, 3) := by decide +kernel
theorem dX8_isSo_44 : decode cX8_isSo 44 = .ok (.iload_n 2, 1) := by decide +kernel
theorem dX8_isSo_45 : decode cX8_isSo 45 = .ok (.invokestatic 91, 3) := by decide +kernel
theorem dX8_isSo_48 : decode cX8_isSo 48 = .ok (.lstore 4, 2) := by decide +kernel
theorem dX8_isSo_50 : decode cX8_isSo 50 = .ok (.aload_n 0, 1) := by decide +kernel
theorem dX8_isSo_51 : decode cX8_isSo 51 = .ok (.getfield 19, 3) := by decide +kernel
theorem dX8_isSo_54 : decode cX8_isSo 54 = .ok (.lload 4, 2) := by decide +kernel
theorem dX8_isSo_56 : decode cX8_isSo 56 = .ok (.invokestatic 99, 3) := by decide +kernel
theorem dX8_isSo_59 : decode cX8_isSo 59 = .ok (.lstore 6, 2) := by decide +kernel
theorem dX8_isSo_61 : decode cX8_isSo 61 = .ok (.iload_n 1, 1) := by decide +kernel
theorem dX8_isSo_62 : decode cX8_isSo 62 = .ok (.iconst 5, 1) := by decide +kernel
theorem dX8_isSo_63 : decode cX8_isSo 63 = .ok (.if_icmp .ne 32, 3) := by decide +kernel
theorem dX8_isSo_66 : decode cX8_isSo 66 = .ok (.lload 6, 2) := by decide +kernel
theorem dX8_isSo_68 : decode cX8_isSo 68 = .ok (.lload 4, 2) := by decide +kernel
theorem dX8_isSo_70 : decode cX8_isSo 70 = .ok (.lcmp, 1) := by decide +kernel
theorem dX8_isSo_71 : decode cX8_isSo 71 = .ok (.ifCond .eq 20, 3) := by decide +kernel
theorem dX8_isSo_74 : decode cX8_isSo 74 = .ok (.aload_n 0, 1) := by decide +kernel
theorem dX8_isSo_75 : decode cX8_isSo 75 = .ok (.getfield 19, 3) := by decide +kernel
theorem dX8_isSo_78 : decode cX8_isSo 78 = .ok (.lload 6, 2) := by decide +kernel
theorem dX8_isSo_80 : decode cX8_isSo 80 = .ok (.invokestatic 84, 3) := by decide +kernel
theorem dX8_isSo_83 : decode cX8_isSo 83 = .ok (.iload_n 3, 1) := by decide +kernel
theorem dX8_isSo_84 : decode cX8_isSo 84 = .ok (.if_icmp .ne 7, 3) := by decide +kernel
theorem dX8_isSo_87 : decode cX8_isSo 87 = .ok (.iconst 1, 1) := by decide +kernel
theorem dX8_isSo_88 : decode cX8_isSo 88 = .ok (.goto 31, 3) := by decide +kernel
theorem dX8_isSo_91 : decode cX8_isSo 91 = .ok (.iconst 0, 1) := by decide +kernel
theorem dX8_isSo_92 : decode cX8_isSo 92 = .ok (.goto 27, 3) := by decide +kernel
theorem dX8_isSo_95 : decode cX8_isSo 95 = .ok (.iload_n 1, 1) := by decide +kernel
theorem dX8_isSo_96 : decode cX8_isSo 96 = .ok (.bipush 7, 2) := by decide +kernel
theorem dX8_isSo_98 : decode cX8_isSo 98 = .ok (.if_icmp .ne 20, 3) := by decide +kernel
theorem dX8_isSo_101 : decode cX8_isSo 101 = .ok (.aload_n 0, 1) := by decide +kernel
theorem dX8_isSo_102 : decode cX8_isSo 102 = .ok (.getfield 19, 3) := by decide +kernel
theorem dX8_isSo_105 : decode cX8_isSo 105 = .ok (.lload 4, 2) := by decide +kernel
theorem dX8_isSo_107 : decode cX8_isSo 107 = .ok (.invokestatic 159, 3) := by decide +kernel
theorem dX8_isSo_110 : decode cX8_isSo 110 = .ok (.iload_n 3, 1) := by decide +kernel
theorem dX8_isSo_111 : decode cX8_isSo 111 = .ok (.if_icmp .ne 7, 3) := by decide +kernel
theorem dX8_isSo_114 : decode cX8_isSo 114 = .ok (.iconst 1, 1) := by decide +kernel
theorem dX8_isSo_115 : decode cX8_isSo 115 = .ok (.goto 4, 3) := by decide +kernel
theorem dX8_isSo_118 : decode cX8_isSo 118 = .ok (.iconst 0, 1) := by decide +kernel
theorem dX8_isSo_119 : decode cX8_isSo 119 = .ok (.ireturn, 1) := by decide +kernel
set_option maxRecDepth 20000 in
theorem ggX8_does_X8_dotsOf : GoodIn wsX8_does wsX8_dotsOf := goodIn_r _ [7] (by decide +kernel) (by decide +kernel)
set_option maxRecDepth 20000 in
theorem gX8_does_X8_dotsOf : GoodIn wsX8_does (va_wsS RX8 55 yX8_dotsOf wsX8_dotsOf) := goodIn_app (goodIn_of _ (by decide +kernel)) ggX8_does_X8_dotsOf
set_option maxRecDepth 20000 in
theorem ggX8_does_X8_goNegative : GoodIn wsX8_does wsX8_goNegative := goodIn_r _ [10, 4, 5, 6, 7] (by decide +kernel) (by decide +kernel)
set_option maxRecDepth 20000 in
theorem gX8_does_X8_goNegative : GoodIn wsX8_does (va_wsS RX8 169 yX8_goNegative wsX8_goNegative) := goodIn_app (goodIn_of _ (by decide +kernel)) ggX8_does_X8_goNegative
set_option maxRecDepth 20000 in
theorem ggX8_does_X8_in : GoodIn wsX8_does wsX8_in := goodIn_r _ [13] (by decide +kernel) (by decide +kernel)
set_option maxRecDepth 20000 in
theorem gX8_does_X8_in : GoodIn wsX8_does (va_wsS RX8 59 yX8_in wsX8_in) := goodIn_app (goodIn_of _ (by decide +kernel)) ggX8_does_X8_in
set_option maxRecDepth 20000 in
theorem ggX8_does_X8_goSift : GoodIn wsX8_does wsX8_goSift := goodIn_r _ [17, 18, 4, 5, 6, 7, 19, 20, 21, 22, 23, 24, 25, 26, 27, 28, 29, 30, 31, 32, 33, 34, 35, 36, 37, 38, 39, 40, 41, 42, 43, 44, 45, 46, 47, 48, 49, 50, 51, 52, 75, 76, 77, 78, 79, 80, 81, 82, 83, 84, 85, 86, 87, 88, 89, 90, 91, 92, 93, 94, 95] (by decide +kernel) (by decide +kernel)
set_option maxRecDepth 20000 in
theorem gX8_does_X8_goSift : GoodIn wsX8_does (wsV RX8 183 RX8 yX8_goSift wsX8_goSift) := goodIn_app (goodIn_of _ (by decide +kernel)) ggX8_does_X8_goSift
set_option maxRecDepth 20000 in
theorem ggX8_does_X8_isSo : GoodIn wsX8_does wsX8_isSo := goodIn_r _ [56, 1, 22, 57, 58, 6, 59, 26, 27, 28, 4, 5, 7, 29, 30, 31, 32, 33, 34, 35, 36, 37, 38, 39, 40, 60, 61, 62, 23, 24, 25, 63, 64, 65, 66, 67, 68, 50, 51, 52, 69, 70, 71, 72, 73, 74, 75, 76, 77, 78, 79, 80, 81, 82, 83, 84, 85, 86, 87, 88, 89, 90, 91, 92, 93, 94, 95] (by decide +kernel) (by decide +kernel)
set_option maxRecDepth 20000 in
theorem gX8_does_X8_isSo : GoodIn wsX8_does (wsV RX8 212 RX8 yX8_isSo wsX8_isSo) := goodIn_app (goodIn_of _ (by decide +kernel)) ggX8_does_X8_isSo
theorem dX8_does_0 : decode cX8_does 0 = .ok (.iload_n 1, 1) := by decide +kernel
theorem dX8_does_1 : decode cX8_does 1 = .ok (.sipush 1000, 3) := by decide +kernel
theorem dX8_does_4 : decode cX8_does 4 = .ok (.idiv, 1) := by decide +kernel
theorem dX8_does_5 : decode cX8_does 5 = .ok (.istore_n 2, 1) := by decide +kernel
theorem dX8_does_6 : decode cX8_does 6 = .ok (.iload_n 1, 1) := by decide +kernel
theorem dX8_does_7 : decode cX8_does 7 = .ok (.bipush 10, 2) := by decide +kernel
theorem dX8_does_9 : decode cX8_does 9 = .ok (.idiv, 1) := by decide +kernel
theorem dX8_does_10 : decode cX8_does 10 = .ok (.bipush 100, 2) := by decide +kernel
theorem dX8_does_12 : decode cX8_does 12 = .ok (.irem, 1) := by decide +kernel
theorem dX8_does_13 : decode cX8_does 13 = .ok (.istore_n 3, 1) := by decide +kernel
theorem dX8_does_14 : decode cX8_does 14 = .ok (.iload_n 1, 1) := by decide +kernel
theorem dX8_does_15 : decode cX8_does 15 = .ok (.bipush 10, 2) := by decide +kernel
theorem dX8_does_17 : decode cX8_does 17 = .ok (.irem, 1) := by decide +kernel
theorem dX8_does_18 : decode cX8_does 18 = .ok (.istore 4, 2) := by decide +kernel
theorem dX8_does_20 : decode cX8_does 20 = .ok (.iload_n 2, 1) := by decide +kernel
theorem dX8_does_21 : decode cX8_does 21 = .ok (.tableswitch 152 1 4 #[31, 69, 96, 96], 31) := by decide +kernel
theorem dX8_does_52 : decode cX8_does 52 = .ok (.iload_n 3, 1) := by decide +kernel
theorem dX8_does_53 : decode cX8_does 53 = .ok (.aload_n 0, 1) := by decide +kernel
theorem dX8_does_54 : decode cX8_does 54 = .ok (.getfield 19, 3) := by decide +kernel
theorem dX8_does_57 : decode cX8_does 57 = .ok (.invokestatic 55, 3) := by decide +kernel
theorem dX8_does_60 : decode cX8_does 60 = .ok (.if_icmp .ge 13, 3) := by decide +kernel
theorem dX8_does_63 : decode cX8_does 63 = .ok (.aload_n 0, 1) := by decide +kernel
theorem dX8_does_64 : decode cX8_does 64 = .ok (.getfield 19, 3) := by decide +kernel
theorem dX8_does_67 : decode cX8_does 67 = .ok (.iconst 3, 1) := by decide +kernel
theorem dX8_does_68 : decode cX8_does 68 = .ok (.iload_n 3, 1) := by decide +kernel
theorem dX8_does_69 : decode cX8_does 69 = .ok (.iadd, 1) := by decide +kernel
theorem dX8_does_70 : decode cX8_does 70 = .ok (.iload 4, 2) := by decide +kernel
theorem dX8_does_72 : decode cX8_does 72 = .ok (.iastore, 1) := by decide +kernel
theorem dX8_does_73 : decode cX8_does 73 = .ok (.iload_n 3, 1) := by decide +kernel
theorem dX8_does_74 : decode cX8_does 74 = .ok (.aload_n 0, 1) := by decide +kernel
theorem dX8_does_75 : decode cX8_does 75 = .ok (.getfield 19, 3) := by decide +kernel
theorem dX8_does_78 : decode cX8_does 78 = .ok (.invokestatic 55, 3) := by decide +kernel
theorem dX8_does_81 : decode cX8_does 81 = .ok (.if_icmp .ge 7, 3) := by decide +kernel
theorem dX8_does_84 : decode cX8_does 84 = .ok (.iconst 1, 1) := by decide +kernel
theorem dX8_does_85 : decode cX8_does 85 = .ok (.goto 4, 3) := by decide +kernel
theorem dX8_does_88 : decode cX8_does 88 = .ok (.iconst 0, 1) := by decide +kernel
theorem dX8_does_89 : decode cX8_does 89 = .ok (.ireturn, 1) := by decide +kernel
theorem dX8_does_90 : decode cX8_does 90 = .ok (.iload_n 1, 1) := by decide +kernel
theorem dX8_does_91 : decode cX8_does 91 = .ok (.sipush 2000, 3) := by decide +kernel
theorem dX8_does_94 : decode cX8_does 94 = .ok (.if_icmp .ne 10, 3) := by decide +kernel
theorem dX8_does_97 : decode cX8_does 97 = .ok (.aload_n 0, 1) := by decide +kernel
theorem dX8_does_98 : decode cX8_does 98 = .ok (.getfield 19, 3) := by decide +kernel
theorem dX8_does_101 : decode cX8_does 101 = .ok (.invokestatic 169, 3) := by decide +kernel
theorem dX8_does_104 : decode cX8_does 104 = .ok (.iload_n 1, 1) := by decide +kernel
theorem dX8_does_105 : decode cX8_does 105 = .ok (.sipush 2000, 3) := by decide +kernel
theorem dX8_does_108 : decode cX8_does 108 = .ok (.if_icmp .ne 7, 3) := by decide +kernel
theorem dX8_does_111 : decode cX8_does 111 = .ok (.iconst 1, 1) := by decide +kernel
theorem dX8_does_112 : decode cX8_does 112 = .ok (.goto 4, 3) := by decide +kernel
theorem dX8_does_115 : decode cX8_does 115 = .ok (.iconst 0, 1) := by decide +kernel
theorem dX8_does_116 : decode cX8_does 116 = .ok (.ireturn, 1) := by decide +kernel
theorem dX8_does_117 : decode cX8_does 117 = .ok (.iload 4, 2) := by decide +kernel
theorem dX8_does_119 : decode cX8_does 119 = .ok (.ifCond .ne 30, 3) := by decide +kernel
theorem dX8_does_122 : decode cX8_does 122 = .ok (.iload_n 3, 1) := by decide +kernel
theorem dX8_does_123 : decode cX8_does 123 = .ok (.i2l, 1) := by decide +kernel
theorem dX8_does_124 : decode cX8_does 124 = .ok (.lconst 1, 1) := by decide +kernel
theorem dX8_does_125 : decode cX8_does 125 = .ok (.iload_n 2, 1) := by decide +kernel
theorem dX8_does_126 : decode cX8_does 126 = .ok (.iconst 3, 1) := by decide +kernel
theorem dX8_does_127 : decode cX8_does 127 = .ok (.if_icmp .ne 9, 3) := by decide +kernel
theorem dX8_does_130 : decode cX8_does 130 = .ok (.ldc2_w 181, 3) := by decide +kernel
theorem dX8_does_133 : decode cX8_does 133 = .ok (.goto 6, 3) := by decide +kernel
theorem dX8_does_136 : decode cX8_does 136 = .ok (.ldc2_w 115, 3) := by decide +kernel
theorem dX8_does_139 : decode cX8_does 139 = .ok (.invokestatic 59, 3) := by decide +kernel
theorem dX8_does_142 : decode cX8_does 142 = .ok (.ifCond .eq 7, 3) := by decide +kernel
theorem dX8_does_145 : decode cX8_does 145 = .ok (.iconst 1, 1) := by decide +kernel
theorem dX8_does_146 : decode cX8_does 146 = .ok (.goto 4, 3) := by decide +kernel
theorem dX8_does_149 : decode cX8_does 149 = .ok (.iconst 0, 1) := by decide +kernel
theorem dX8_does_150 : decode cX8_does 150 = .ok (.istore 5, 2) := by decide +kernel
theorem dX8_does_152 : decode cX8_does 152 = .ok (.iload 5, 2) := by decide +kernel
theorem dX8_does_154 : decode cX8_does 154 = .ok (.ifCond .eq 16, 3) := by decide +kernel
theorem dX8_does_157 : decode cX8_does 157 = .ok (.aload_n 0, 1) := by decide +kernel
theorem dX8_does_158 : decode cX8_does 158 = .ok (.aload_n 0, 1) := by decide +kernel
theorem dX8_does_159 : decode cX8_does 159 = .ok (.getfield 19, 3) := by decide +kernel
theorem dX8_does_162 : decode cX8_does 162 = .ok (.iload_n 2, 1) := by decide +kernel
theorem dX8_does_163 : decode cX8_does 163 = .ok (.iconst 3, 1) := by decide +kernel
theorem dX8_does_164 : decode cX8_does 164 = .ok (.isub, 1) := by decide +kernel
theorem dX8_does_165 : decode cX8_does 165 = .ok (.iload_n 3, 1) := by decide +kernel
theorem dX8_does_166 : decode cX8_does 166 = .ok (.invokevirtual 183, 3) := by decide +kernel
theorem dX8_does_169 : decode cX8_does 169 = .ok (.pop, 1) := by decide +kernel
theorem dX8_does_170 : decode cX8_does 170 = .ok (.iload 5, 2) := by decide +kernel
theorem dX8_does_172 : decode cX8_does 172 = .ok (.ireturn, 1) := by decide +kernel
theorem dX8_does_173 : decode cX8_does 173 = .ok (.aload_n 0, 1) := by decide +kernel
theorem dX8_does_174 : decode cX8_does 174 = .ok (.iload_n 2, 1) := by decide +kernel
theorem dX8_does_175 : decode cX8_does 175 = .ok (.iload_n 3, 1) := by decide +kernel
theorem dX8_does_176 : decode cX8_does 176 = .ok (.iload 4, 2) := by decide +kernel
theorem dX8_does_178 : decode cX8_does 178 = .ok (.invokevirtual 212, 3) := by decide +kernel
theorem dX8_does_181 : decode cX8_does 181 = .ok (.ireturn, 1) := by decide +kernel
set_option maxRecDepth 20000 in
theorem ggX8_judge_X8_in : GoodIn wsX8_judge wsX8_in := goodIn_r _ [7] (by decide +kernel) (by decide +kernel)
set_option maxRecDepth 20000 in
theorem gX8_judge_X8_in : GoodIn wsX8_judge (va_wsS RX8 59 yX8_in wsX8_in) := goodIn_app (goodIn_of _ (by decide +kernel)) ggX8_judge_X8_in
set_option maxRecDepth 20000 in
theorem ggX8_judge_X8_longPower : GoodIn wsX8_judge wsX8_longPower := goodIn_r _ [10] (by decide +kernel) (by decide +kernel)
set_option maxRecDepth 20000 in
theorem gX8_judge_X8_longPower : GoodIn wsX8_judge (va_wsS RX8 220 yX8_longPower wsX8_longPower) := goodIn_app (goodIn_of _ (by decide +kernel)) ggX8_judge_X8_longPower
set_option maxRecDepth 20000 in
theorem ggX8_judge_X8_begin : GoodIn wsX8_judge wsX8_begin := goodIn_r _ [14, 15, 16, 90, 91, 92, 93, 94, 95, 96, 97, 98, 99, 100, 101, 102, 103, 104, 105, 106, 107, 108, 109, 110] (by decide +kernel) (by decide +kernel)
set_option maxRecDepth 20000 in
theorem gX8_judge_X8_begin : GoodIn wsX8_judge (wsV RX8 224 RX8 yX8_begin wsX8_begin) := goodIn_app (goodIn_of _ (by decide +kernel)) ggX8_judge_X8_begin
set_option maxRecDepth 20000 in
theorem ggX8_judge_X8_does : GoodIn wsX8_judge wsX8_does := goodIn_r _ [20, 15, 21, 22, 23, 24, 6, 25, 26, 27, 28, 4, 5, 7, 29, 30, 31, 32, 33, 34, 35, 36, 37, 38, 39, 40, 41, 42, 43, 44, 45, 46, 47, 48, 49, 50, 51, 52, 53, 54, 55, 56, 57, 58, 59, 60, 61, 62, 63, 64, 65, 66, 67, 68, 69, 70, 71, 72, 73, 74, 75, 76, 77, 78, 79, 80, 81, 82, 83, 84, 85, 86, 87, 88, 89, 90, 91, 92, 93, 94, 95, 96, 97, 98, 99, 100, 101, 102, 103, 104, 105, 106, 107, 108, 109, 110] (by decide +kernel) (by decide +kernel)
set_option maxRecDepth 20000 in
theorem gX8_judge_X8_does : GoodIn wsX8_judge (wsV RX8 227 RX8 yX8_does wsX8_does) := goodIn_app (goodIn_of _ (by decide +kernel)) ggX8_judge_X8_does
theorem dX8_judge_0 : decode cX8_judge 0 = .ok (.aload_n 0, 1) := by decide +kernel
theorem dX8_judge_1 : decode cX8_judge 1 = .ok (.iconst 0, 1) := by decide +kernel
theorem dX8_judge_2 : decode cX8_judge 2 = .ok (.putfield 47, 3) := by decide +kernel
theorem dX8_judge_5 : decode cX8_judge 5 = .ok (.iload_n 1, 1) := by decide +kernel
theorem dX8_judge_6 : decode cX8_judge 6 = .ok (.i2l, 1) := by decide +kernel
theorem dX8_judge_7 : decode cX8_judge 7 = .ok (.lconst 1, 1) := by decide +kernel
theorem dX8_judge_8 : decode cX8_judge 8 = .ok (.ldc2_w 216, 3) := by decide +kernel
theorem dX8_judge_11 : decode cX8_judge 11 = .ok (.invokestatic 59, 3) := by decide +kernel
theorem dX8_judge_14 : decode cX8_judge 14 = .ok (.ifCond .eq 20, 3) := by decide +kernel
theorem dX8_judge_17 : decode cX8_judge 17 = .ok (.lload_n 2, 1) := by decide +kernel
theorem dX8_judge_18 : decode cX8_judge 18 = .ok (.lconst 0, 1) := by decide +kernel
theorem dX8_judge_19 : decode cX8_judge 19 = .ok (.ldc2_w 218, 3) := by decide +kernel
theorem dX8_judge_22 : decode cX8_judge 22 = .ok (.iload_n 1, 1) := by decide +kernel
theorem dX8_judge_23 : decode cX8_judge 23 = .ok (.invokestatic 220, 3) := by decide +kernel
theorem dX8_judge_26 : decode cX8_judge 26 = .ok (.lconst 1, 1) := by decide +kernel
theorem dX8_judge_27 : decode cX8_judge 27 = .ok (.lsub, 1) := by decide +kernel
theorem dX8_judge_28 : decode cX8_judge 28 = .ok (.invokestatic 59, 3) := by decide +kernel
theorem dX8_judge_31 : decode cX8_judge 31 = .ok (.ifCond .ne 6, 3) := by decide +kernel
theorem dX8_judge_34 : decode cX8_judge 34 = .ok (.bipush (-2), 2) := by decide +kernel
theorem dX8_judge_36 : decode cX8_judge 36 = .ok (.ireturn, 1) := by decide +kernel
theorem dX8_judge_37 : decode cX8_judge 37 = .ok (.aload_n 0, 1) := by decide +kernel
theorem dX8_judge_38 : decode cX8_judge 38 = .ok (.invokevirtual 224, 3) := by decide +kernel
theorem dX8_judge_41 : decode cX8_judge 41 = .ok (.iconst 0, 1) := by decide +kernel
theorem dX8_judge_42 : decode cX8_judge 42 = .ok (.istore 4, 2) := by decide +kernel
theorem dX8_judge_44 : decode cX8_judge 44 = .ok (.iload 4, 2) := by decide +kernel
theorem dX8_judge_46 : decode cX8_judge 46 = .ok (.iload_n 1, 1) := by decide +kernel
theorem dX8_judge_47 : decode cX8_judge 47 = .ok (.if_icmp .ge 38, 3) := by decide +kernel
theorem dX8_judge_50 : decode cX8_judge 50 = .ok (.aload_n 0, 1) := by decide +kernel
theorem dX8_judge_51 : decode cX8_judge 51 = .ok (.lload_n 2, 1) := by decide +kernel
theorem dX8_judge_52 : decode cX8_judge 52 = .ok (.ldc2_w 218, 3) := by decide +kernel
theorem dX8_judge_55 : decode cX8_judge 55 = .ok (.iload_n 1, 1) := by decide +kernel
theorem dX8_judge_56 : decode cX8_judge 56 = .ok (.iconst 1, 1) := by decide +kernel
theorem dX8_judge_57 : decode cX8_judge 57 = .ok (.isub, 1) := by decide +kernel
theorem dX8_judge_58 : decode cX8_judge 58 = .ok (.iload 4, 2) := by decide +kernel
theorem dX8_judge_60 : decode cX8_judge 60 = .ok (.isub, 1) := by decide +kernel
theorem dX8_judge_61 : decode cX8_judge 61 = .ok (.invokestatic 220, 3) := by decide +kernel
theorem dX8_judge_64 : decode cX8_judge 64 = .ok (.ldiv, 1) := by decide +kernel
theorem dX8_judge_65 : decode cX8_judge 65 = .ok (.ldc2_w 218, 3) := by decide +kernel
theorem dX8_judge_68 : decode cX8_judge 68 = .ok (.lrem, 1) := by decide +kernel
theorem dX8_judge_69 : decode cX8_judge 69 = .ok (.l2i, 1) := by decide +kernel
theorem dX8_judge_70 : decode cX8_judge 70 = .ok (.invokevirtual 227, 3) := by decide +kernel
theorem dX8_judge_73 : decode cX8_judge 73 = .ok (.ifCond .ne 6, 3) := by decide +kernel
theorem dX8_judge_76 : decode cX8_judge 76 = .ok (.iload 4, 2) := by decide +kernel
theorem dX8_judge_78 : decode cX8_judge 78 = .ok (.ireturn, 1) := by decide +kernel
theorem dX8_judge_79 : decode cX8_judge 79 = .ok (.iinc 4 1, 3) := by decide +kernel
theorem dX8_judge_82 : decode cX8_judge 82 = .ok (.goto (-38), 3) := by decide +kernel
theorem dX8_judge_85 : decode cX8_judge 85 = .ok (.bipush (-9), 2) := by decide +kernel
theorem dX8_judge_87 : decode cX8_judge 87 = .ok (.ireturn, 1) := by decide +kernel
theorem dX8_orders_0 : decode cX8_orders 0 = .ok (.iconst 1, 1) := by decide +kernel
theorem dX8_orders_1 : decode cX8_orders 1 = .ok (.istore_n 2, 1) := by decide +kernel
theorem dX8_orders_2 : decode cX8_orders 2 = .ok (.iconst 2, 1) := by decide +kernel
theorem dX8_orders_3 : decode cX8_orders 3 = .ok (.istore_n 3, 1) := by decide +kernel
theorem dX8_orders_4 : decode cX8_orders 4 = .ok (.iload_n 3, 1) := by decide +kernel
theorem dX8_orders_5 : decode cX8_orders 5 = .ok (.iload_n 1, 1) := by decide +kernel
theorem dX8_orders_6 : decode cX8_orders 6 = .ok (.if_icmp .gt 13, 3) := by decide +kernel
theorem dX8_orders_9 : decode cX8_orders 9 = .ok (.iload_n 2, 1) := by decide +kernel
theorem dX8_orders_10 : decode cX8_orders 10 = .ok (.iload_n 3, 1) := by decide +kernel
theorem dX8_orders_11 : decode cX8_orders 11 = .ok (.imul, 1) := by decide +kernel
theorem dX8_orders_12 : decode cX8_orders 12 = .ok (.istore_n 2, 1) := by decide +kernel
theorem dX8_orders_13 : decode cX8_orders 13 = .ok (.iinc 3 1, 3) := by decide +kernel
theorem dX8_orders_16 : decode cX8_orders 16 = .ok (.goto (-12), 3) := by decide +kernel
theorem dX8_orders_19 : decode cX8_orders 19 = .ok (.iconst 2, 1) := by decide +kernel
theorem dX8_orders_20 : decode cX8_orders 20 = .ok (.istore_n 3, 1) := by decide +kernel
theorem dX8_orders_21 : decode cX8_orders 21 = .ok (.iload_n 3, 1) := by decide +kernel
theorem dX8_orders_22 : decode cX8_orders 22 = .ok (.iload_n 0, 1) := by decide +kernel
theorem dX8_orders_23 : decode cX8_orders 23 = .ok (.iconst 1, 1) := by decide +kernel
theorem dX8_orders_24 : decode cX8_orders 24 = .ok (.isub, 1) := by decide +kernel
theorem dX8_orders_25 : decode cX8_orders 25 = .ok (.iload_n 1, 1) := by decide +kernel
theorem dX8_orders_26 : decode cX8_orders 26 = .ok (.isub, 1) := by decide +kernel
theorem dX8_orders_27 : decode cX8_orders 27 = .ok (.if_icmp .gt 13, 3) := by decide +kernel
theorem dX8_orders_30 : decode cX8_orders 30 = .ok (.iload_n 2, 1) := by decide +kernel
theorem dX8_orders_31 : decode cX8_orders 31 = .ok (.iload_n 3, 1) := by decide +kernel
theorem dX8_orders_32 : decode cX8_orders 32 = .ok (.imul, 1) := by decide +kernel
theorem dX8_orders_33 : decode cX8_orders 33 = .ok (.istore_n 2, 1) := by decide +kernel
theorem dX8_orders_34 : decode cX8_orders 34 = .ok (.iinc 3 1, 3) := by decide +kernel
theorem dX8_orders_37 : decode cX8_orders 37 = .ok (.goto (-16), 3) := by decide +kernel
theorem dX8_orders_40 : decode cX8_orders 40 = .ok (.iload_n 2, 1) := by decide +kernel
theorem dX8_orders_41 : decode cX8_orders 41 = .ok (.ireturn, 1) := by decide +kernel
set_option maxRecDepth 20000 in
theorem ggX8_rows_X8_dotsOf : GoodIn wsX8_rows wsX8_dotsOf := goodIn_r _ [5] (by decide +kernel) (by decide +kernel)
set_option maxRecDepth 20000 in
theorem gX8_rows_X8_dotsOf : GoodIn wsX8_rows (va_wsS RX8 55 yX8_dotsOf wsX8_dotsOf) := goodIn_app (goodIn_of _ (by decide +kernel)) ggX8_rows_X8_dotsOf
set_option maxRecDepth 20000 in
theorem ggX8_rows_X8_has : GoodIn wsX8_rows wsX8_has := goodIn_r _ [8] (by decide +kernel) (by decide +kernel)
set_option maxRecDepth 20000 in
theorem gX8_rows_X8_has : GoodIn wsX8_rows (va_wsS RX8 51 yX8_has wsX8_has) := goodIn_app (goodIn_of _ (by decide +kernel)) ggX8_rows_X8_has
theorem dX8_rows_0 : decode cX8_rows 0 = .ok (.lconst 0, 1) := by decide +kernel
theorem dX8_rows_1 : decode cX8_rows 1 = .ok (.lstore_n 2, 1) := by decide +kernel
theorem dX8_rows_2 : decode cX8_rows 2 = .ok (.iconst 0, 1) := by decide +kernel
theorem dX8_rows_3 : decode cX8_rows 3 = .ok (.istore 4, 2) := by decide +kernel
theorem dX8_rows_5 : decode cX8_rows 5 = .ok (.iload 4, 2) := by decide +kernel
theorem dX8_rows_7 : decode cX8_rows 7 = .ok (.aload_n 0, 1) := by decide +kernel
theorem dX8_rows_8 : decode cX8_rows 8 = .ok (.getfield 16, 3) := by decide +kernel
theorem dX8_rows_11 : decode cX8_rows 11 = .ok (.invokestatic 55, 3) := by decide +kernel
theorem dX8_rows_14 : decode cX8_rows 14 = .ok (.if_icmp .ge 37, 3) := by decide +kernel
theorem dX8_rows_17 : decode cX8_rows 17 = .ok (.lload_n 2, 1) := by decide +kernel
theorem dX8_rows_18 : decode cX8_rows 18 = .ok (.iload_n 1, 1) := by decide +kernel
theorem dX8_rows_19 : decode cX8_rows 19 = .ok (.i2l, 1) := by decide +kernel
theorem dX8_rows_20 : decode cX8_rows 20 = .ok (.iload 4, 2) := by decide +kernel
theorem dX8_rows_22 : decode cX8_rows 22 = .ok (.aload_n 0, 1) := by decide +kernel
theorem dX8_rows_23 : decode cX8_rows 23 = .ok (.getfield 16, 3) := by decide +kernel
theorem dX8_rows_26 : decode cX8_rows 26 = .ok (.iconst 1, 1) := by decide +kernel
theorem dX8_rows_27 : decode cX8_rows 27 = .ok (.iaload, 1) := by decide +kernel
theorem dX8_rows_28 : decode cX8_rows 28 = .ok (.idiv, 1) := by decide +kernel
theorem dX8_rows_29 : decode cX8_rows 29 = .ok (.invokestatic 51, 3) := by decide +kernel
theorem dX8_rows_32 : decode cX8_rows 32 = .ok (.ifCond .eq 10, 3) := by decide +kernel
theorem dX8_rows_35 : decode cX8_rows 35 = .ok (.lconst 1, 1) := by decide +kernel
theorem dX8_rows_36 : decode cX8_rows 36 = .ok (.iload 4, 2) := by decide +kernel
theorem dX8_rows_38 : decode cX8_rows 38 = .ok (.lshl, 1) := by decide +kernel
theorem dX8_rows_39 : decode cX8_rows 39 = .ok (.goto 4, 3) := by decide +kernel
theorem dX8_rows_42 : decode cX8_rows 42 = .ok (.lconst 0, 1) := by decide +kernel
theorem dX8_rows_43 : decode cX8_rows 43 = .ok (.lor, 1) := by decide +kernel
theorem dX8_rows_44 : decode cX8_rows 44 = .ok (.lstore_n 2, 1) := by decide +kernel
theorem dX8_rows_45 : decode cX8_rows 45 = .ok (.iinc 4 1, 3) := by decide +kernel
theorem dX8_rows_48 : decode cX8_rows 48 = .ok (.goto (-43), 3) := by decide +kernel
theorem dX8_rows_51 : decode cX8_rows 51 = .ok (.lload_n 2, 1) := by decide +kernel
theorem dX8_rows_52 : decode cX8_rows 52 = .ok (.lreturn, 1) := by decide +kernel
set_option maxRecDepth 20000 in
theorem ggX8_share_X8_in : GoodIn wsX8_share wsX8_in := goodIn_r _ [8] (by decide +kernel) (by decide +kernel)
set_option maxRecDepth 20000 in
theorem gX8_share_X8_in : GoodIn wsX8_share (va_wsS RX8 59 yX8_in wsX8_in) := goodIn_app (goodIn_of _ (by decide +kernel)) ggX8_share_X8_in
set_option maxRecDepth 20000 in
theorem ggX8_share_X8_rows : GoodIn wsX8_share wsX8_rows := goodIn_r _ [12, 2, 13, 14, 7, 15, 16, 17, 18, 47, 48, 49, 50, 51, 52, 53, 54, 55, 56, 57, 58, 59, 60, 61, 62, 63, 64, 65, 66, 67] (by decide +kernel) (by decide +kernel)
set_option maxRecDepth 20000 in
theorem gX8_share_X8_rows : GoodIn wsX8_share (wsV RX8 230 RX8 yX8_rows wsX8_rows) := goodIn_app (goodIn_of _ (by decide +kernel)) ggX8_share_X8_rows
set_option maxRecDepth 20000 in
theorem ggX8_share_X8_partsOf : GoodIn wsX8_share wsX8_partsOf := goodIn_r _ [21, 22, 23, 24, 7, 25, 13, 14, 15, 16, 17, 18, 26, 27, 28, 29, 30, 31, 32, 33, 34] (by decide +kernel) (by decide +kernel)
set_option maxRecDepth 20000 in
theorem gX8_share_X8_partsOf : GoodIn wsX8_share (va_wsS RX8 162 yX8_partsOf wsX8_partsOf) := goodIn_app (goodIn_of _ (by decide +kernel)) ggX8_share_X8_partsOf
set_option maxRecDepth 20000 in
theorem ggX8_share_X8_has : GoodIn wsX8_share wsX8_has := goodIn_r _ [18] (by decide +kernel) (by decide +kernel)
