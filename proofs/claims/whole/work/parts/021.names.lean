theorem dX6_parentLevel_33 : decode cX6_parentLevel 33 = .ok (.ireturn, 1) := by decide +kernel
set_option maxRecDepth 20000 in
theorem ggX6_parentHead_X6_parentLevel : GoodIn wsX6_parentHead wsX6_parentLevel := goodIn_r _ [5, 6, 7, 8, 4, 9, 10, 11, 12, 13, 14, 15, 16, 17, 18, 19, 20, 21, 22, 23, 24, 25, 26, 27, 28, 29, 30, 31, 32, 33, 34, 35, 52, 53, 54, 55, 56, 57, 58, 59, 60, 61, 62, 63, 64] (by decide +kernel) (by decide +kernel)
set_option maxRecDepth 20000 in
theorem gX6_parentHead_X6_parentLevel : GoodIn wsX6_parentHead (wsV RX6 66 RX6 yX6_parentLevel wsX6_parentLevel) := goodIn_app (goodIn_of _ (by decide +kernel)) ggX6_parentHead_X6_parentLevel
set_option maxRecDepth 20000 in
theorem ggX6_parentHead_X6_partAt : GoodIn wsX6_parentHead wsX6_partAt := goodIn_r _ [9, 10, 11, 12, 13, 14, 15, 16, 17, 18, 19, 20, 21, 22, 23, 24, 25, 26, 27, 28, 29, 30, 31, 32, 33, 34, 35, 52, 53, 54, 55, 56, 57, 58, 59, 60, 61, 62, 63, 64] (by decide +kernel) (by decide +kernel)
set_option maxRecDepth 20000 in
theorem gX6_parentHead_X6_partAt : GoodIn wsX6_parentHead (wsV RX6 53 RX6 yX6_partAt wsX6_partAt) := goodIn_app (goodIn_of _ (by decide +kernel)) ggX6_parentHead_X6_partAt
set_option maxRecDepth 20000 in
theorem ggX6_parentHead_X6_head : GoodIn wsX6_parentHead wsX6_head := goodIn_r _ [39, 40, 41, 42, 4, 43, 11, 44, 12, 13, 14, 15, 16, 17, 45, 46, 47, 48, 49, 50, 51, 52, 53, 54, 55, 56, 57, 58] (by decide +kernel) (by decide +kernel)
set_option maxRecDepth 20000 in
theorem gX6_parentHead_X6_head : GoodIn wsX6_parentHead (wsV RX6 70 RX6 yX6_head wsX6_head) := goodIn_app (goodIn_of _ (by decide +kernel)) ggX6_parentHead_X6_head
theorem dX6_parentHead_0 : decode cX6_parentHead 0 = .ok (.aload_n 0, 1) := by decide +kernel
theorem dX6_parentHead_1 : decode cX6_parentHead 1 = .ok (.lload_n 1, 1) := by decide +kernel
theorem dX6_parentHead_2 : decode cX6_parentHead 2 = .ok (.iload_n 3, 1) := by decide +kernel
theorem dX6_parentHead_3 : decode cX6_parentHead 3 = .ok (.invokevirtual 66, 3) := by decide +kernel
theorem dX6_parentHead_6 : decode cX6_parentHead 6 = .ok (.istore 4, 2) := by decide +kernel
theorem dX6_parentHead_8 : decode cX6_parentHead 8 = .ok (.iload 4, 2) := by decide +kernel
theorem dX6_parentHead_10 : decode cX6_parentHead 10 = .ok (.bipush (-9), 2) := by decide +kernel
theorem dX6_parentHead_12 : decode cX6_parentHead 12 = .ok (.if_icmp .ne 8, 3) := by decide +kernel
theorem dX6_parentHead_15 : decode cX6_parentHead 15 = .ok (.bipush (-9), 2) := by decide +kernel
theorem dX6_parentHead_17 : decode cX6_parentHead 17 = .ok (.goto 16, 3) := by decide +kernel
theorem dX6_parentHead_20 : decode cX6_parentHead 20 = .ok (.aload_n 0, 1) := by decide +kernel
theorem dX6_parentHead_21 : decode cX6_parentHead 21 = .ok (.aload_n 0, 1) := by decide +kernel
theorem dX6_parentHead_22 : decode cX6_parentHead 22 = .ok (.iload 4, 2) := by decide +kernel
theorem dX6_parentHead_24 : decode cX6_parentHead 24 = .ok (.lload_n 1, 1) := by decide +kernel
theorem dX6_parentHead_25 : decode cX6_parentHead 25 = .ok (.invokevirtual 53, 3) := by decide +kernel
theorem dX6_parentHead_28 : decode cX6_parentHead 28 = .ok (.iload 4, 2) := by decide +kernel
theorem dX6_parentHead_30 : decode cX6_parentHead 30 = .ok (.invokevirtual 70, 3) := by decide +kernel
theorem dX6_parentHead_33 : decode cX6_parentHead 33 = .ok (.ireturn, 1) := by decide +kernel
set_option maxRecDepth 20000 in
theorem ggX6_countChildren_X2_atLeast : GoodIn wsX6_countChildren wsX2_atLeast := goodIn_r _ [7, 8, 36, 37] (by decide +kernel) (by decide +kernel)
set_option maxRecDepth 20000 in
theorem gX6_countChildren_X2_atLeast : GoodIn wsX6_countChildren (wsV RX6 27 RX2 yX2_atLeast wsX2_atLeast) := goodIn_app (goodIn_of _ (by decide +kernel)) ggX6_countChildren_X2_atLeast
set_option maxRecDepth 20000 in
theorem ggX6_countChildren_X1_way : GoodIn wsX6_countChildren wsX1_way := goodIn_r _ [13, 14, 38, 39, 40, 41, 42, 43] (by decide +kernel) (by decide +kernel)
set_option maxRecDepth 20000 in
theorem gX6_countChildren_X1_way : GoodIn wsX6_countChildren (wsV RX6 33 RX1 yX1_way wsX1_way) := goodIn_app (goodIn_of _ (by decide +kernel)) ggX6_countChildren_X1_way
set_option maxRecDepth 20000 in
theorem ggX6_countChildren_X1_countParts : GoodIn wsX6_countChildren wsX1_countParts := goodIn_r _ [18, 19, 20, 21, 22, 12, 23, 24, 25, 26, 27, 28, 29, 30, 38, 39, 40, 41, 42, 43] (by decide +kernel) (by decide +kernel)
set_option maxRecDepth 20000 in
theorem gX6_countChildren_X1_countParts : GoodIn wsX6_countChildren (wsV RX6 73 RX1 yX1_countParts wsX1_countParts) := goodIn_app (goodIn_of _ (by decide +kernel)) ggX6_countChildren_X1_countParts
theorem dX6_countChildren_0 : decode cX6_countChildren 0 = .ok (.aload_n 0, 1) := by decide +kernel
theorem dX6_countChildren_1 : decode cX6_countChildren 1 = .ok (.getfield 19, 3) := by decide +kernel
theorem dX6_countChildren_4 : decode cX6_countChildren 4 = .ok (.lload_n 1, 1) := by decide +kernel
theorem dX6_countChildren_5 : decode cX6_countChildren 5 = .ok (.aload_n 0, 1) := by decide +kernel
theorem dX6_countChildren_6 : decode cX6_countChildren 6 = .ok (.getfield 23, 3) := by decide +kernel
theorem dX6_countChildren_9 : decode cX6_countChildren 9 = .ok (.iload_n 3, 1) := by decide +kernel
theorem dX6_countChildren_10 : decode cX6_countChildren 10 = .ok (.iconst 1, 1) := by decide +kernel
theorem dX6_countChildren_11 : decode cX6_countChildren 11 = .ok (.iadd, 1) := by decide +kernel
theorem dX6_countChildren_12 : decode cX6_countChildren 12 = .ok (.invokevirtual 27, 3) := by decide +kernel
theorem dX6_countChildren_15 : decode cX6_countChildren 15 = .ok (.land, 1) := by decide +kernel
theorem dX6_countChildren_16 : decode cX6_countChildren 16 = .ok (.aload_n 0, 1) := by decide +kernel
theorem dX6_countChildren_17 : decode cX6_countChildren 17 = .ok (.getfield 19, 3) := by decide +kernel
theorem dX6_countChildren_20 : decode cX6_countChildren 20 = .ok (.invokevirtual 33, 3) := by decide +kernel
theorem dX6_countChildren_23 : decode cX6_countChildren 23 = .ok (.invokevirtual 73, 3) := by decide +kernel
theorem dX6_countChildren_26 : decode cX6_countChildren 26 = .ok (.ireturn, 1) := by decide +kernel
set_option maxRecDepth 20000 in
theorem ggX6_depth_X6_partAt : GoodIn wsX6_depth wsX6_partAt := goodIn_r _ [5, 6, 7, 8, 9, 10, 11, 12, 13, 14, 15, 16, 17, 18, 19, 20, 21, 22, 23, 24, 25, 26, 27, 28, 29, 30, 31, 32, 33, 34, 35, 36, 37, 38, 39, 40, 41, 42, 43, 44] (by decide +kernel) (by decide +kernel)
set_option maxRecDepth 20000 in
theorem gX6_depth_X6_partAt : GoodIn wsX6_depth (wsV RX6 53 RX6 yX6_partAt wsX6_partAt) := goodIn_app (goodIn_of _ (by decide +kernel)) ggX6_depth_X6_partAt
theorem dX6_depth_0 : decode cX6_depth 0 = .ok (.iconst 0, 1) := by decide +kernel
theorem dX6_depth_1 : decode cX6_depth 1 = .ok (.istore 4, 2) := by decide +kernel
theorem dX6_depth_3 : decode cX6_depth 3 = .ok (.lload_n 1, 1) := by decide +kernel
theorem dX6_depth_4 : decode cX6_depth 4 = .ok (.lstore 5, 2) := by decide +kernel
theorem dX6_depth_6 : decode cX6_depth 6 = .ok (.iload_n 3, 1) := by decide +kernel
theorem dX6_depth_7 : decode cX6_depth 7 = .ok (.iconst 1, 1) := by decide +kernel
theorem dX6_depth_8 : decode cX6_depth 8 = .ok (.isub, 1) := by decide +kernel
theorem dX6_depth_9 : decode cX6_depth 9 = .ok (.istore 7, 2) := by decide +kernel
theorem dX6_depth_11 : decode cX6_depth 11 = .ok (.iload 7, 2) := by decide +kernel
theorem dX6_depth_13 : decode cX6_depth 13 = .ok (.ifCond .lt 34, 3) := by decide +kernel
theorem dX6_depth_16 : decode cX6_depth 16 = .ok (.aload_n 0, 1) := by decide +kernel
theorem dX6_depth_17 : decode cX6_depth 17 = .ok (.iload 7, 2) := by decide +kernel
theorem dX6_depth_19 : decode cX6_depth 19 = .ok (.lload 5, 2) := by decide +kernel
theorem dX6_depth_21 : decode cX6_depth 21 = .ok (.invokevirtual 53, 3) := by decide +kernel
theorem dX6_depth_24 : decode cX6_depth 24 = .ok (.lstore 8, 2) := by decide +kernel
theorem dX6_depth_26 : decode cX6_depth 26 = .ok (.lload 8, 2) := by decide +kernel
theorem dX6_depth_28 : decode cX6_depth 28 = .ok (.lload 5, 2) := by decide +kernel
theorem dX6_depth_30 : decode cX6_depth 30 = .ok (.lcmp, 1) := by decide +kernel
theorem dX6_depth_31 : decode cX6_depth 31 = .ok (.ifCond .eq 10, 3) := by decide +kernel
theorem dX6_depth_34 : decode cX6_depth 34 = .ok (.iinc 4 1, 3) := by decide +kernel
theorem dX6_depth_37 : decode cX6_depth 37 = .ok (.lload 8, 2) := by decide +kernel
theorem dX6_depth_39 : decode cX6_depth 39 = .ok (.lstore 5, 2) := by decide +kernel
theorem dX6_depth_41 : decode cX6_depth 41 = .ok (.iinc 7 (-1), 3) := by decide +kernel
theorem dX6_depth_44 : decode cX6_depth 44 = .ok (.goto (-33), 3) := by decide +kernel
theorem dX6_depth_47 : decode cX6_depth 47 = .ok (.iload 4, 2) := by decide +kernel
theorem dX6_depth_49 : decode cX6_depth 49 = .ok (.ireturn, 1) := by decide +kernel
set_option maxRecDepth 20000 in
theorem ggX6_rise_X2_brightest : GoodIn wsX6_rise wsX2_brightest := goodIn_r _ [6, 7, 8, 9, 5, 10, 11, 42, 43] (by decide +kernel) (by decide +kernel)
set_option maxRecDepth 20000 in
theorem gX6_rise_X2_brightest : GoodIn wsX6_rise (wsV RX6 76 RX2 yX2_brightest wsX2_brightest) := goodIn_app (goodIn_of _ (by decide +kernel)) ggX6_rise_X2_brightest
set_option maxRecDepth 20000 in
theorem ggX6_rise_X2_atLeast : GoodIn wsX6_rise wsX2_atLeast := goodIn_r _ [10, 11, 42, 43] (by decide +kernel) (by decide +kernel)
set_option maxRecDepth 20000 in
theorem gX6_rise_X2_atLeast : GoodIn wsX6_rise (wsV RX6 27 RX2 yX2_atLeast wsX2_atLeast) := goodIn_app (goodIn_of _ (by decide +kernel)) ggX6_rise_X2_atLeast
set_option maxRecDepth 20000 in
theorem ggX6_rise_X6_partAt : GoodIn wsX6_rise wsX6_partAt := goodIn_r _ [17, 18, 1, 12, 8, 9, 5, 10, 11, 19, 20, 21, 22, 23, 24, 25, 26, 27, 28, 29, 30, 31, 32, 33, 34, 35, 36, 37, 38, 39, 40, 41, 42, 43, 44, 45, 46, 47, 48, 49] (by decide +kernel) (by decide +kernel)
set_option maxRecDepth 20000 in
theorem gX6_rise_X6_partAt : GoodIn wsX6_rise (wsV RX6 53 RX6 yX6_partAt wsX6_partAt) := goodIn_app (goodIn_of _ (by decide +kernel)) ggX6_rise_X6_partAt
theorem dX6_rise_0 : decode cX6_rise 0 = .ok (.aload_n 0, 1) := by decide +kernel
theorem dX6_rise_1 : decode cX6_rise 1 = .ok (.getfield 23, 3) := by decide +kernel
theorem dX6_rise_4 : decode cX6_rise 4 = .ok (.aload_n 0, 1) := by decide +kernel
theorem dX6_rise_5 : decode cX6_rise 5 = .ok (.getfield 23, 3) := by decide +kernel
theorem dX6_rise_8 : decode cX6_rise 8 = .ok (.lload_n 1, 1) := by decide +kernel
theorem dX6_rise_9 : decode cX6_rise 9 = .ok (.invokevirtual 76, 3) := by decide +kernel
theorem dX6_rise_12 : decode cX6_rise 12 = .ok (.iconst 1, 1) := by decide +kernel
theorem dX6_rise_13 : decode cX6_rise 13 = .ok (.iadd, 1) := by decide +kernel
theorem dX6_rise_14 : decode cX6_rise 14 = .ok (.invokevirtual 27, 3) := by decide +kernel
theorem dX6_rise_17 : decode cX6_rise 17 = .ok (.lstore 4, 2) := by decide +kernel
theorem dX6_rise_19 : decode cX6_rise 19 = .ok (.lload 4, 2) := by decide +kernel
theorem dX6_rise_21 : decode cX6_rise 21 = .ok (.lconst 0, 1) := by decide +kernel
theorem dX6_rise_22 : decode cX6_rise 22 = .ok (.lcmp, 1) := by decide +kernel
theorem dX6_rise_23 : decode cX6_rise 23 = .ok (.ifCond .ne 6, 3) := by decide +kernel
theorem dX6_rise_26 : decode cX6_rise 26 = .ok (.bipush (-9), 2) := by decide +kernel
theorem dX6_rise_28 : decode cX6_rise 28 = .ok (.ireturn, 1) := by decide +kernel
theorem dX6_rise_29 : decode cX6_rise 29 = .ok (.iload_n 3, 1) := by decide +kernel
theorem dX6_rise_30 : decode cX6_rise 30 = .ok (.iconst 1, 1) := by decide +kernel
theorem dX6_rise_31 : decode cX6_rise 31 = .ok (.isub, 1) := by decide +kernel
theorem dX6_rise_32 : decode cX6_rise 32 = .ok (.istore 6, 2) := by decide +kernel
theorem dX6_rise_34 : decode cX6_rise 34 = .ok (.iload 6, 2) := by decide +kernel
theorem dX6_rise_36 : decode cX6_rise 36 = .ok (.ifCond .lt 29, 3) := by decide +kernel
theorem dX6_rise_39 : decode cX6_rise 39 = .ok (.aload_n 0, 1) := by decide +kernel
theorem dX6_rise_40 : decode cX6_rise 40 = .ok (.iload 6, 2) := by decide +kernel
theorem dX6_rise_42 : decode cX6_rise 42 = .ok (.lload_n 1, 1) := by decide +kernel
theorem dX6_rise_43 : decode cX6_rise 43 = .ok (.invokevirtual 53, 3) := by decide +kernel
theorem dX6_rise_46 : decode cX6_rise 46 = .ok (.lload 4, 2) := by decide +kernel
theorem dX6_rise_48 : decode cX6_rise 48 = .ok (.land, 1) := by decide +kernel
theorem dX6_rise_49 : decode cX6_rise 49 = .ok (.lconst 0, 1) := by decide +kernel
theorem dX6_rise_50 : decode cX6_rise 50 = .ok (.lcmp, 1) := by decide +kernel
theorem dX6_rise_51 : decode cX6_rise 51 = .ok (.ifCond .eq 8, 3) := by decide +kernel
theorem dX6_rise_54 : decode cX6_rise 54 = .ok (.iload_n 3, 1) := by decide +kernel
theorem dX6_rise_55 : decode cX6_rise 55 = .ok (.iload 6, 2) := by decide +kernel
theorem dX6_rise_57 : decode cX6_rise 57 = .ok (.isub, 1) := by decide +kernel
theorem dX6_rise_58 : decode cX6_rise 58 = .ok (.ireturn, 1) := by decide +kernel
theorem dX6_rise_59 : decode cX6_rise 59 = .ok (.iinc 6 (-1), 3) := by decide +kernel
theorem dX6_rise_62 : decode cX6_rise 62 = .ok (.goto (-28), 3) := by decide +kernel
theorem dX6_rise_65 : decode cX6_rise 65 = .ok (.bipush (-9), 2) := by decide +kernel
theorem dX6_rise_67 : decode cX6_rise 67 = .ok (.ireturn, 1) := by decide +kernel
set_option maxRecDepth 20000 in
theorem ggX6_gain_X6_partAt : GoodIn wsX6_gain wsX6_partAt := goodIn_r _ [10, 11, 12, 13, 14, 15, 16, 17, 18, 19, 20, 21, 22, 23, 24, 25, 26, 27, 28, 29, 30, 31, 32, 33, 34, 35, 36, 44, 45, 46, 47, 48, 49, 50, 51, 52, 53, 54, 55, 56] (by decide +kernel) (by decide +kernel)
set_option maxRecDepth 20000 in
theorem gX6_gain_X6_partAt : GoodIn wsX6_gain (wsV RX6 53 RX6 yX6_partAt wsX6_partAt) := goodIn_app (goodIn_of _ (by decide +kernel)) ggX6_gain_X6_partAt
set_option maxRecDepth 20000 in
theorem ggX6_gain_J13_bitCount_95d88 : GoodIn wsX6_gain wsJ13_bitCount_95d88 := goodIn_r _ [40, 41, 42, 43] (by decide +kernel) (by decide +kernel)
set_option maxRecDepth 20000 in
theorem gX6_gain_J13_bitCount_95d88 : GoodIn wsX6_gain (va_wsS RX6 60 yJ13_bitCount_95d88 wsJ13_bitCount_95d88) := goodIn_app (goodIn_of _ (by decide +kernel)) ggX6_gain_J13_bitCount_95d88
theorem dX6_gain_0 : decode cX6_gain 0 = .ok (.aload_n 0, 1) := by decide +kernel
theorem dX6_gain_1 : decode cX6_gain 1 = .ok (.iload_n 3, 1) := by decide +kernel
theorem dX6_gain_2 : decode cX6_gain 2 = .ok (.iload 4, 2) := by decide +kernel
theorem dX6_gain_4 : decode cX6_gain 4 = .ok (.isub, 1) := by decide +kernel
theorem dX6_gain_5 : decode cX6_gain 5 = .ok (.iconst 0, 1) := by decide +kernel
theorem dX6_gain_6 : decode cX6_gain 6 = .ok (.invokestatic 79, 3) := by decide +kernel
theorem dX6_gain_9 : decode cX6_gain 9 = .ok (.lload_n 1, 1) := by decide +kernel
theorem dX6_gain_10 : decode cX6_gain 10 = .ok (.invokevirtual 53, 3) := by decide +kernel
theorem dX6_gain_13 : decode cX6_gain 13 = .ok (.lload_n 1, 1) := by decide +kernel
theorem dX6_gain_14 : decode cX6_gain 14 = .ok (.ldc2_w 43, 3) := by decide +kernel
theorem dX6_gain_17 : decode cX6_gain 17 = .ok (.lxor, 1) := by decide +kernel
theorem dX6_gain_18 : decode cX6_gain 18 = .ok (.land, 1) := by decide +kernel
theorem dX6_gain_19 : decode cX6_gain 19 = .ok (.invokestatic 60, 3) := by decide +kernel
theorem dX6_gain_22 : decode cX6_gain 22 = .ok (.ireturn, 1) := by decide +kernel
set_option maxRecDepth 20000 in
theorem ggX6_isSteady_X6_gain : GoodIn wsX6_isSteady wsX6_gain := goodIn_r _ [7, 8, 9, 10, 11, 2, 12, 13, 14, 6, 15, 16, 1, 17, 18, 19, 20, 21, 22, 23, 24, 25, 26, 27, 28, 29, 30, 31, 32, 33, 34, 35, 36, 37, 38, 39, 40, 41, 42, 43, 44, 45, 46, 47, 56, 57, 58, 59, 60, 61, 62, 63, 64, 65, 66, 67, 68] (by decide +kernel) (by decide +kernel)
set_option maxRecDepth 20000 in
theorem gX6_isSteady_X6_gain : GoodIn wsX6_isSteady (wsV RX6 85 RX6 yX6_gain wsX6_gain) := goodIn_app (goodIn_of _ (by decide +kernel)) ggX6_isSteady_X6_gain
set_option maxRecDepth 20000 in
theorem ggX6_isSteady_J13_bitCount_95d88 : GoodIn wsX6_isSteady wsJ13_bitCount_95d88 := goodIn_r _ [44, 45, 46, 47] (by decide +kernel) (by decide +kernel)
set_option maxRecDepth 20000 in
theorem gX6_isSteady_J13_bitCount_95d88 : GoodIn wsX6_isSteady (va_wsS RX6 60 yJ13_bitCount_95d88 wsJ13_bitCount_95d88) := goodIn_app (goodIn_of _ (by decide +kernel)) ggX6_isSteady_J13_bitCount_95d88
set_option maxRecDepth 20000 in
theorem ggX6_isSteady_X6_parentLevel : GoodIn wsX6_isSteady wsX6_parentLevel := goodIn_r _ [51, 12, 13, 14, 6, 15, 16, 1, 17, 18, 19, 20, 21, 22, 23, 24, 25, 26, 27, 28, 29, 30, 31, 32, 33, 34, 35, 36, 37, 38, 39, 40, 56, 57, 58, 59, 60, 61, 62, 63, 64, 65, 66, 67, 68] (by decide +kernel) (by decide +kernel)
set_option maxRecDepth 20000 in
theorem gX6_isSteady_X6_parentLevel : GoodIn wsX6_isSteady (wsV RX6 66 RX6 yX6_parentLevel wsX6_parentLevel) := goodIn_app (goodIn_of _ (by decide +kernel)) ggX6_isSteady_X6_parentLevel
set_option maxRecDepth 20000 in
theorem ggX6_isSteady_X6_partAt : GoodIn wsX6_isSteady wsX6_partAt := goodIn_r _ [15, 16, 1, 17, 18, 19, 20, 21, 22, 23, 24, 25, 26, 27, 28, 29, 30, 31, 32, 33, 34, 35, 36, 37, 38, 39, 40, 56, 57, 58, 59, 60, 61, 62, 63, 64, 65, 66, 67, 68] (by decide +kernel) (by decide +kernel)
set_option maxRecDepth 20000 in
theorem gX6_isSteady_X6_partAt : GoodIn wsX6_isSteady (wsV RX6 53 RX6 yX6_partAt wsX6_partAt) := goodIn_app (goodIn_of _ (by decide +kernel)) ggX6_isSteady_X6_partAt
set_option maxRecDepth 20000 in
theorem ggX6_isSteady_X2_atLeast : GoodIn wsX6_isSteady wsX2_atLeast := goodIn_r _ [21, 22, 61, 62] (by decide +kernel) (by decide +kernel)
set_option maxRecDepth 20000 in
theorem gX6_isSteady_X2_atLeast : GoodIn wsX6_isSteady (wsV RX6 27 RX2 yX2_atLeast wsX2_atLeast) := goodIn_app (goodIn_of _ (by decide +kernel)) ggX6_isSteady_X2_atLeast
set_option maxRecDepth 20000 in
theorem ggX6_isSteady_X6_darkest : GoodIn wsX6_isSteady wsX6_darkest := goodIn_r _ [55, 1, 2, 17, 18, 19, 20, 21, 22, 56, 57, 58, 59, 60, 61, 62] (by decide +kernel) (by decide +kernel)
set_option maxRecDepth 20000 in
theorem gX6_isSteady_X6_darkest : GoodIn wsX6_isSteady (wsV RX6 89 RX6 yX6_darkest wsX6_darkest) := goodIn_app (goodIn_of _ (by decide +kernel)) ggX6_isSteady_X6_darkest
theorem dX6_isSteady_0 : decode cX6_isSteady 0 = .ok (.aload_n 0, 1) := by decide +kernel
theorem dX6_isSteady_1 : decode cX6_isSteady 1 = .ok (.lload_n 1, 1) := by decide +kernel
theorem dX6_isSteady_2 : decode cX6_isSteady 2 = .ok (.iload_n 3, 1) := by decide +kernel
theorem dX6_isSteady_3 : decode cX6_isSteady 3 = .ok (.iload 4, 2) := by decide +kernel
theorem dX6_isSteady_5 : decode cX6_isSteady 5 = .ok (.invokevirtual 85, 3) := by decide +kernel
theorem dX6_isSteady_8 : decode cX6_isSteady 8 = .ok (.istore 5, 2) := by decide +kernel
theorem dX6_isSteady_10 : decode cX6_isSteady 10 = .ok (.lload_n 1, 1) := by decide +kernel
theorem dX6_isSteady_11 : decode cX6_isSteady 11 = .ok (.invokestatic 60, 3) := by decide +kernel
theorem dX6_isSteady_14 : decode cX6_isSteady 14 = .ok (.istore 6, 2) := by decide +kernel
theorem dX6_isSteady_16 : decode cX6_isSteady 16 = .ok (.aload_n 0, 1) := by decide +kernel
theorem dX6_isSteady_17 : decode cX6_isSteady 17 = .ok (.lload_n 1, 1) := by decide +kernel
theorem dX6_isSteady_18 : decode cX6_isSteady 18 = .ok (.iload_n 3, 1) := by decide +kernel
theorem dX6_isSteady_19 : decode cX6_isSteady 19 = .ok (.invokevirtual 66, 3) := by decide +kernel
theorem dX6_isSteady_22 : decode cX6_isSteady 22 = .ok (.istore 7, 2) := by decide +kernel
theorem dX6_isSteady_24 : decode cX6_isSteady 24 = .ok (.iload 7, 2) := by decide +kernel
theorem dX6_isSteady_26 : decode cX6_isSteady 26 = .ok (.bipush (-9), 2) := by decide +kernel
theorem dX6_isSteady_28 : decode cX6_isSteady 28 = .ok (.if_icmp .eq 38, 3) := by decide +kernel
theorem dX6_isSteady_31 : decode cX6_isSteady 31 = .ok (.aload_n 0, 1) := by decide +kernel
theorem dX6_isSteady_32 : decode cX6_isSteady 32 = .ok (.iload 7, 2) := by decide +kernel
theorem dX6_isSteady_34 : decode cX6_isSteady 34 = .ok (.lload_n 1, 1) := by decide +kernel
theorem dX6_isSteady_35 : decode cX6_isSteady 35 = .ok (.invokevirtual 53, 3) := by decide +kernel
theorem dX6_isSteady_38 : decode cX6_isSteady 38 = .ok (.lstore 8, 2) := by decide +kernel
theorem dX6_isSteady_40 : decode cX6_isSteady 40 = .ok (.iload 5, 2) := by decide +kernel
theorem dX6_isSteady_42 : decode cX6_isSteady 42 = .ok (.lload 8, 2) := by decide +kernel
theorem dX6_isSteady_44 : decode cX6_isSteady 44 = .ok (.invokestatic 60, 3) := by decide +kernel
theorem dX6_isSteady_47 : decode cX6_isSteady 47 = .ok (.imul, 1) := by decide +kernel
theorem dX6_isSteady_48 : decode cX6_isSteady 48 = .ok (.aload_n 0, 1) := by decide +kernel
theorem dX6_isSteady_49 : decode cX6_isSteady 49 = .ok (.lload 8, 2) := by decide +kernel
theorem dX6_isSteady_51 : decode cX6_isSteady 51 = .ok (.iload 7, 2) := by decide +kernel
theorem dX6_isSteady_53 : decode cX6_isSteady 53 = .ok (.iload 4, 2) := by decide +kernel
theorem dX6_isSteady_55 : decode cX6_isSteady 55 = .ok (.invokevirtual 85, 3) := by decide +kernel
theorem dX6_isSteady_58 : decode cX6_isSteady 58 = .ok (.iload 6, 2) := by decide +kernel
theorem dX6_isSteady_60 : decode cX6_isSteady 60 = .ok (.imul, 1) := by decide +kernel
theorem dX6_isSteady_61 : decode cX6_isSteady 61 = .ok (.if_icmp .le 5, 3) := by decide +kernel
theorem dX6_isSteady_64 : decode cX6_isSteady 64 = .ok (.iconst 0, 1) := by decide +kernel
theorem dX6_isSteady_65 : decode cX6_isSteady 65 = .ok (.ireturn, 1) := by decide +kernel
theorem dX6_isSteady_66 : decode cX6_isSteady 66 = .ok (.lload_n 1, 1) := by decide +kernel
theorem dX6_isSteady_67 : decode cX6_isSteady 67 = .ok (.aload_n 0, 1) := by decide +kernel
theorem dX6_isSteady_68 : decode cX6_isSteady 68 = .ok (.getfield 23, 3) := by decide +kernel
theorem dX6_isSteady_71 : decode cX6_isSteady 71 = .ok (.iload_n 3, 1) := by decide +kernel
theorem dX6_isSteady_72 : decode cX6_isSteady 72 = .ok (.iconst 1, 1) := by decide +kernel
theorem dX6_isSteady_73 : decode cX6_isSteady 73 = .ok (.iadd, 1) := by decide +kernel
theorem dX6_isSteady_74 : decode cX6_isSteady 74 = .ok (.invokevirtual 27, 3) := by decide +kernel
theorem dX6_isSteady_77 : decode cX6_isSteady 77 = .ok (.land, 1) := by decide +kernel
theorem dX6_isSteady_78 : decode cX6_isSteady 78 = .ok (.lstore 8, 2) := by decide +kernel
theorem dX6_isSteady_80 : decode cX6_isSteady 80 = .ok (.iconst 0, 1) := by decide +kernel
theorem dX6_isSteady_81 : decode cX6_isSteady 81 = .ok (.istore 10, 2) := by decide +kernel
theorem dX6_isSteady_83 : decode cX6_isSteady 83 = .ok (.iload 10, 2) := by decide +kernel
theorem dX6_isSteady_85 : decode cX6_isSteady 85 = .ok (.bipush 36, 2) := by decide +kernel
theorem dX6_isSteady_87 : decode cX6_isSteady 87 = .ok (.if_icmp .ge 72, 3) := by decide +kernel
theorem dX6_isSteady_90 : decode cX6_isSteady 90 = .ok (.lload 8, 2) := by decide +kernel
theorem dX6_isSteady_92 : decode cX6_isSteady 92 = .ok (.lconst 0, 1) := by decide +kernel
theorem dX6_isSteady_93 : decode cX6_isSteady 93 = .ok (.lcmp, 1) := by decide +kernel
theorem dX6_isSteady_94 : decode cX6_isSteady 94 = .ok (.ifCond .eq 65, 3) := by decide +kernel
theorem dX6_isSteady_97 : decode cX6_isSteady 97 = .ok (.aload_n 0, 1) := by decide +kernel
theorem dX6_isSteady_98 : decode cX6_isSteady 98 = .ok (.iload_n 3, 1) := by decide +kernel
theorem dX6_isSteady_99 : decode cX6_isSteady 99 = .ok (.iconst 1, 1) := by decide +kernel
theorem dX6_isSteady_100 : decode cX6_isSteady 100 = .ok (.iadd, 1) := by decide +kernel
theorem dX6_isSteady_101 : decode cX6_isSteady 101 = .ok (.lload 8, 2) := by decide +kernel
theorem dX6_isSteady_103 : decode cX6_isSteady 103 = .ok (.lload 8, 2) := by decide +kernel
theorem dX6_isSteady_105 : decode cX6_isSteady 105 = .ok (.lneg, 1) := by decide +kernel
theorem dX6_isSteady_106 : decode cX6_isSteady 106 = .ok (.land, 1) := by decide +kernel
theorem dX6_isSteady_107 : decode cX6_isSteady 107 = .ok (.invokevirtual 53, 3) := by decide +kernel
theorem dX6_isSteady_110 : decode cX6_isSteady 110 = .ok (.lstore 11, 2) := by decide +kernel
theorem dX6_isSteady_112 : decode cX6_isSteady 112 = .ok (.iload 5, 2) := by decide +kernel
theorem dX6_isSteady_114 : decode cX6_isSteady 114 = .ok (.lload 11, 2) := by decide +kernel
theorem dX6_isSteady_116 : decode cX6_isSteady 116 = .ok (.invokestatic 60, 3) := by decide +kernel
theorem dX6_isSteady_119 : decode cX6_isSteady 119 = .ok (.imul, 1) := by decide +kernel
theorem dX6_isSteady_120 : decode cX6_isSteady 120 = .ok (.aload_n 0, 1) := by decide +kernel
theorem dX6_isSteady_121 : decode cX6_isSteady 121 = .ok (.lload 11, 2) := by decide +kernel
theorem dX6_isSteady_123 : decode cX6_isSteady 123 = .ok (.aload_n 0, 1) := by decide +kernel
theorem dX6_isSteady_124 : decode cX6_isSteady 124 = .ok (.lload 11, 2) := by decide +kernel
theorem dX6_isSteady_126 : decode cX6_isSteady 126 = .ok (.invokevirtual 89, 3) := by decide +kernel
theorem dX6_isSteady_129 : decode cX6_isSteady 129 = .ok (.iload 4, 2) := by decide +kernel
theorem dX6_isSteady_131 : decode cX6_isSteady 131 = .ok (.invokevirtual 85, 3) := by decide +kernel
theorem dX6_isSteady_134 : decode cX6_isSteady 134 = .ok (.iload 6, 2) := by decide +kernel
theorem dX6_isSteady_136 : decode cX6_isSteady 136 = .ok (.imul, 1) := by decide +kernel
theorem dX6_isSteady_137 : decode cX6_isSteady 137 = .ok (.if_icmp .le 5, 3) := by decide +kernel
theorem dX6_isSteady_140 : decode cX6_isSteady 140 = .ok (.iconst 0, 1) := by decide +kernel
theorem dX6_isSteady_141 : decode cX6_isSteady 141 = .ok (.ireturn, 1) := by decide +kernel
theorem dX6_isSteady_142 : decode cX6_isSteady 142 = .ok (.lload 8, 2) := by decide +kernel
theorem dX6_isSteady_144 : decode cX6_isSteady 144 = .ok (.lload 11, 2) := by decide +kernel
theorem dX6_isSteady_146 : decode cX6_isSteady 146 = .ok (.ldc2_w 43, 3) := by decide +kernel
theorem dX6_isSteady_149 : decode cX6_isSteady 149 = .ok (.lxor, 1) := by decide +kernel
theorem dX6_isSteady_150 : decode cX6_isSteady 150 = .ok (.land, 1) := by decide +kernel
theorem dX6_isSteady_151 : decode cX6_isSteady 151 = .ok (.lstore 8, 2) := by decide +kernel
theorem dX6_isSteady_153 : decode cX6_isSteady 153 = .ok (.iinc 10 1, 3) := by decide +kernel
theorem dX6_isSteady_156 : decode cX6_isSteady 156 = .ok (.goto (-73), 3) := by decide +kernel
theorem dX6_isSteady_159 : decode cX6_isSteady 159 = .ok (.iconst 1, 1) := by decide +kernel
theorem dX6_isSteady_160 : decode cX6_isSteady 160 = .ok (.ireturn, 1) := by decide +kernel
set_option maxRecDepth 20000 in
theorem ggX6_darkest_X2_atLeast : GoodIn wsX6_darkest wsX2_atLeast := goodIn_r _ [7, 8, 14, 15] (by decide +kernel) (by decide +kernel)
set_option maxRecDepth 20000 in
theorem gX6_darkest_X2_atLeast : GoodIn wsX6_darkest (wsV RX6 27 RX2 yX2_atLeast wsX2_atLeast) := goodIn_app (goodIn_of _ (by decide +kernel)) ggX6_darkest_X2_atLeast
theorem dX6_darkest_0 : decode cX6_darkest 0 = .ok (.bipush 9, 2) := by decide +kernel
theorem dX6_darkest_2 : decode cX6_darkest 2 = .ok (.istore_n 3, 1) := by decide +kernel
theorem dX6_darkest_3 : decode cX6_darkest 3 = .ok (.iload_n 3, 1) := by decide +kernel
theorem dX6_darkest_4 : decode cX6_darkest 4 = .ok (.ifCond .le 30, 3) := by decide +kernel
theorem dX6_darkest_7 : decode cX6_darkest 7 = .ok (.lload_n 1, 1) := by decide +kernel
theorem dX6_darkest_8 : decode cX6_darkest 8 = .ok (.aload_n 0, 1) := by decide +kernel
theorem dX6_darkest_9 : decode cX6_darkest 9 = .ok (.getfield 23, 3) := by decide +kernel
theorem dX6_darkest_12 : decode cX6_darkest 12 = .ok (.iload_n 3, 1) := by decide +kernel
theorem dX6_darkest_13 : decode cX6_darkest 13 = .ok (.invokevirtual 27, 3) := by decide +kernel
theorem dX6_darkest_16 : decode cX6_darkest 16 = .ok (.ldc2_w 43, 3) := by decide +kernel
theorem dX6_darkest_19 : decode cX6_darkest 19 = .ok (.lxor, 1) := by decide +kernel
theorem dX6_darkest_20 : decode cX6_darkest 20 = .ok (.land, 1) := by decide +kernel
theorem dX6_darkest_21 : decode cX6_darkest 21 = .ok (.lconst 0, 1) := by decide +kernel
theorem dX6_darkest_22 : decode cX6_darkest 22 = .ok (.lcmp, 1) := by decide +kernel
theorem dX6_darkest_23 : decode cX6_darkest 23 = .ok (.ifCond .ne 5, 3) := by decide +kernel
theorem dX6_darkest_26 : decode cX6_darkest 26 = .ok (.iload_n 3, 1) := by decide +kernel
theorem dX6_darkest_27 : decode cX6_darkest 27 = .ok (.ireturn, 1) := by decide +kernel
theorem dX6_darkest_28 : decode cX6_darkest 28 = .ok (.iinc 3 (-1), 3) := by decide +kernel
theorem dX6_darkest_31 : decode cX6_darkest 31 = .ok (.goto (-28), 3) := by decide +kernel
theorem dX6_darkest_34 : decode cX6_darkest 34 = .ok (.iconst 0, 1) := by decide +kernel
theorem dX6_darkest_35 : decode cX6_darkest 35 = .ok (.ireturn, 1) := by decide +kernel
set_option maxRecDepth 20000 in
theorem ggX6_countNodes_X6_gather : GoodIn wsX6_countNodes wsX6_gather := goodIn_r _ [6, 1, 7, 8, 9, 10, 11, 12, 5, 13, 14, 15, 16, 17, 18, 19, 20, 21, 22, 23, 24, 25, 26, 27, 28, 29, 30, 31, 32, 33, 34, 35, 36, 37, 38, 39, 40, 41, 42, 43, 44, 45, 46, 47, 48, 49, 50, 51, 52, 53, 54, 55, 56] (by decide +kernel) (by decide +kernel)
set_option maxRecDepth 20000 in
theorem gX6_countNodes_X6_gather : GoodIn wsX6_countNodes (wsV RX6 92 RX6 yX6_gather wsX6_gather) := goodIn_app (goodIn_of _ (by decide +kernel)) ggX6_countNodes_X6_gather
theorem dX6_countNodes_0 : decode cX6_countNodes 0 = .ok (.aload_n 0, 1) := by decide +kernel
theorem dX6_countNodes_1 : decode cX6_countNodes 1 = .ok (.invokevirtual 92, 3) := by decide +kernel
theorem dX6_countNodes_4 : decode cX6_countNodes 4 = .ok (.aload_n 0, 1) := by decide +kernel
theorem dX6_countNodes_5 : decode cX6_countNodes 5 = .ok (.getfield 95, 3) := by decide +kernel
theorem dX6_countNodes_8 : decode cX6_countNodes 8 = .ok (.ireturn, 1) := by decide +kernel
set_option maxRecDepth 20000 in
theorem ggX6_countLeaves_X6_gather : GoodIn wsX6_countLeaves wsX6_gather := goodIn_r _ [9, 1, 2, 4, 10, 11, 12, 13, 8, 14, 3, 15, 16, 17, 18, 19, 20, 21, 22, 23, 24, 25, 26, 27, 28, 29, 30, 31, 32, 33, 34, 35, 36, 37, 38, 39, 40, 41, 42, 43, 44, 45, 46, 47, 48, 49, 50, 51, 52, 53, 54, 55, 56] (by decide +kernel) (by decide +kernel)
set_option maxRecDepth 20000 in
theorem gX6_countLeaves_X6_gather : GoodIn wsX6_countLeaves (wsV RX6 92 RX6 yX6_gather wsX6_gather) := goodIn_app (goodIn_of _ (by decide +kernel)) ggX6_countLeaves_X6_gather
set_option maxRecDepth 20000 in
theorem ggX6_countLeaves_X2_atLeast : GoodIn wsX6_countLeaves wsX2_atLeast := goodIn_r _ [19, 20, 49, 50] (by decide +kernel) (by decide +kernel)
set_option maxRecDepth 20000 in
theorem gX6_countLeaves_X2_atLeast : GoodIn wsX6_countLeaves (wsV RX6 27 RX2 yX2_atLeast wsX2_atLeast) := goodIn_app (goodIn_of _ (by decide +kernel)) ggX6_countLeaves_X2_atLeast
theorem dX6_countLeaves_0 : decode cX6_countLeaves 0 = .ok (.aload_n 0, 1) := by decide +kernel
theorem dX6_countLeaves_1 : decode cX6_countLeaves 1 = .ok (.invokevirtual 92, 3) := by decide +kernel
theorem dX6_countLeaves_4 : decode cX6_countLeaves 4 = .ok (.iconst 0, 1) := by decide +kernel
theorem dX6_countLeaves_5 : decode cX6_countLeaves 5 = .ok (.istore_n 1, 1) := by decide +kernel
theorem dX6_countLeaves_6 : decode cX6_countLeaves 6 = .ok (.iconst 0, 1) := by decide +kernel
theorem dX6_countLeaves_7 : decode cX6_countLeaves 7 = .ok (.istore_n 2, 1) := by decide +kernel
theorem dX6_countLeaves_8 : decode cX6_countLeaves 8 = .ok (.iload_n 2, 1) := by decide +kernel
theorem dX6_countLeaves_9 : decode cX6_countLeaves 9 = .ok (.aload_n 0, 1) := by decide +kernel
theorem dX6_countLeaves_10 : decode cX6_countLeaves 10 = .ok (.getfield 95, 3) := by decide +kernel
theorem dX6_countLeaves_13 : decode cX6_countLeaves 13 = .ok (.if_icmp .ge 45, 3) := by decide +kernel
theorem dX6_countLeaves_16 : decode cX6_countLeaves 16 = .ok (.iload_n 2, 1) := by decide +kernel
theorem dX6_countLeaves_17 : decode cX6_countLeaves 17 = .ok (.bipush 36, 2) := by decide +kernel
theorem dX6_countLeaves_19 : decode cX6_countLeaves 19 = .ok (.if_icmp .ge 39, 3) := by decide +kernel
theorem dX6_countLeaves_22 : decode cX6_countLeaves 22 = .ok (.aload_n 0, 1) := by decide +kernel
theorem dX6_countLeaves_23 : decode cX6_countLeaves 23 = .ok (.getfield 9, 3) := by decide +kernel
theorem dX6_countLeaves_26 : decode cX6_countLeaves 26 = .ok (.iload_n 2, 1) := by decide +kernel
theorem dX6_countLeaves_27 : decode cX6_countLeaves 27 = .ok (.laload, 1) := by decide +kernel
theorem dX6_countLeaves_28 : decode cX6_countLeaves 28 = .ok (.aload_n 0, 1) := by decide +kernel
theorem dX6_countLeaves_29 : decode cX6_countLeaves 29 = .ok (.getfield 23, 3) := by decide +kernel
theorem dX6_countLeaves_32 : decode cX6_countLeaves 32 = .ok (.aload_n 0, 1) := by decide +kernel
theorem dX6_countLeaves_33 : decode cX6_countLeaves 33 = .ok (.getfield 15, 3) := by decide +kernel
theorem dX6_countLeaves_36 : decode cX6_countLeaves 36 = .ok (.iload_n 2, 1) := by decide +kernel
theorem dX6_countLeaves_37 : decode cX6_countLeaves 37 = .ok (.iaload, 1) := by decide +kernel
theorem dX6_countLeaves_38 : decode cX6_countLeaves 38 = .ok (.iconst 1, 1) := by decide +kernel
theorem dX6_countLeaves_39 : decode cX6_countLeaves 39 = .ok (.iadd, 1) := by decide +kernel
theorem dX6_countLeaves_40 : decode cX6_countLeaves 40 = .ok (.invokevirtual 27, 3) := by decide +kernel
theorem dX6_countLeaves_43 : decode cX6_countLeaves 43 = .ok (.land, 1) := by decide +kernel
theorem dX6_countLeaves_44 : decode cX6_countLeaves 44 = .ok (.lconst 0, 1) := by decide +kernel
theorem dX6_countLeaves_45 : decode cX6_countLeaves 45 = .ok (.lcmp, 1) := by decide +kernel
theorem dX6_countLeaves_46 : decode cX6_countLeaves 46 = .ok (.ifCond .ne 6, 3) := by decide +kernel
theorem dX6_countLeaves_49 : decode cX6_countLeaves 49 = .ok (.iinc 1 1, 3) := by decide +kernel
theorem dX6_countLeaves_52 : decode cX6_countLeaves 52 = .ok (.iinc 2 1, 3) := by decide +kernel
theorem dX6_countLeaves_55 : decode cX6_countLeaves 55 = .ok (.goto (-47), 3) := by decide +kernel
theorem dX6_countLeaves_58 : decode cX6_countLeaves 58 = .ok (.iload_n 1, 1) := by decide +kernel
theorem dX6_countLeaves_59 : decode cX6_countLeaves 59 = .ok (.ireturn, 1) := by decide +kernel
set_option maxRecDepth 20000 in
theorem ggX6_greatestDepth_X6_gather : GoodIn wsX6_greatestDepth wsX6_gather := goodIn_r _ [12, 1, 2, 3, 13, 14, 15, 16, 11, 17, 18, 19, 20, 21, 22, 23, 24, 25, 26, 27, 28, 29, 30, 31, 32, 33, 34, 35, 36, 37, 38, 39, 40, 41, 42, 43, 44, 45, 46, 47, 52, 53, 54, 55, 56, 57, 58, 59, 60, 61, 62, 63, 64] (by decide +kernel) (by decide +kernel)
set_option maxRecDepth 20000 in
theorem gX6_greatestDepth_X6_gather : GoodIn wsX6_greatestDepth (wsV RX6 92 RX6 yX6_gather wsX6_gather) := goodIn_app (goodIn_of _ (by decide +kernel)) ggX6_greatestDepth_X6_gather
set_option maxRecDepth 20000 in
theorem ggX6_greatestDepth_X6_depth : GoodIn wsX6_greatestDepth wsX6_depth := goodIn_r _ [51, 25, 26, 27, 11, 28, 29, 18, 19, 20, 21, 22, 23, 24, 30, 31, 32, 33, 34, 35, 36, 37, 38, 39, 40, 41, 42, 43, 44, 45, 46, 47, 52, 53, 54, 55, 56, 57, 58, 59, 60, 61, 62, 63, 64] (by decide +kernel) (by decide +kernel)
set_option maxRecDepth 20000 in
theorem gX6_greatestDepth_X6_depth : GoodIn wsX6_greatestDepth (wsV RX6 99 RX6 yX6_depth wsX6_depth) := goodIn_app (goodIn_of _ (by decide +kernel)) ggX6_greatestDepth_X6_depth
theorem dX6_greatestDepth_0 : decode cX6_greatestDepth 0 = .ok (.aload_n 0, 1) := by decide +kernel
theorem dX6_greatestDepth_1 : decode cX6_greatestDepth 1 = .ok (.invokevirtual 92, 3) := by decide +kernel
theorem dX6_greatestDepth_4 : decode cX6_greatestDepth 4 = .ok (.iconst 0, 1) := by decide +kernel
theorem dX6_greatestDepth_5 : decode cX6_greatestDepth 5 = .ok (.istore_n 1, 1) := by decide +kernel
theorem dX6_greatestDepth_6 : decode cX6_greatestDepth 6 = .ok (.iconst 0, 1) := by decide +kernel
theorem dX6_greatestDepth_7 : decode cX6_greatestDepth 7 = .ok (.istore_n 2, 1) := by decide +kernel
theorem dX6_greatestDepth_8 : decode cX6_greatestDepth 8 = .ok (.iload_n 2, 1) := by decide +kernel
theorem dX6_greatestDepth_9 : decode cX6_greatestDepth 9 = .ok (.aload_n 0, 1) := by decide +kernel
theorem dX6_greatestDepth_10 : decode cX6_greatestDepth 10 = .ok (.getfield 95, 3) := by decide +kernel
theorem dX6_greatestDepth_13 : decode cX6_greatestDepth 13 = .ok (.if_icmp .ge 36, 3) := by decide +kernel
theorem dX6_greatestDepth_16 : decode cX6_greatestDepth 16 = .ok (.iload_n 2, 1) := by decide +kernel
theorem dX6_greatestDepth_17 : decode cX6_greatestDepth 17 = .ok (.bipush 36, 2) := by decide +kernel
theorem dX6_greatestDepth_19 : decode cX6_greatestDepth 19 = .ok (.if_icmp .ge 30, 3) := by decide +kernel
theorem dX6_greatestDepth_22 : decode cX6_greatestDepth 22 = .ok (.iload_n 1, 1) := by decide +kernel
theorem dX6_greatestDepth_23 : decode cX6_greatestDepth 23 = .ok (.aload_n 0, 1) := by decide +kernel
theorem dX6_greatestDepth_24 : decode cX6_greatestDepth 24 = .ok (.aload_n 0, 1) := by decide +kernel
theorem dX6_greatestDepth_25 : decode cX6_greatestDepth 25 = .ok (.getfield 9, 3) := by decide +kernel
theorem dX6_greatestDepth_28 : decode cX6_greatestDepth 28 = .ok (.iload_n 2, 1) := by decide +kernel
theorem dX6_greatestDepth_29 : decode cX6_greatestDepth 29 = .ok (.laload, 1) := by decide +kernel
theorem dX6_greatestDepth_30 : decode cX6_greatestDepth 30 = .ok (.aload_n 0, 1) := by decide +kernel
theorem dX6_greatestDepth_31 : decode cX6_greatestDepth 31 = .ok (.getfield 15, 3) := by decide +kernel
theorem dX6_greatestDepth_34 : decode cX6_greatestDepth 34 = .ok (.iload_n 2, 1) := by decide +kernel
theorem dX6_greatestDepth_35 : decode cX6_greatestDepth 35 = .ok (.iaload, 1) := by decide +kernel
theorem dX6_greatestDepth_36 : decode cX6_greatestDepth 36 = .ok (.invokevirtual 99, 3) := by decide +kernel
theorem dX6_greatestDepth_39 : decode cX6_greatestDepth 39 = .ok (.invokestatic 79, 3) := by decide +kernel
theorem dX6_greatestDepth_42 : decode cX6_greatestDepth 42 = .ok (.istore_n 1, 1) := by decide +kernel
theorem dX6_greatestDepth_43 : decode cX6_greatestDepth 43 = .ok (.iinc 2 1, 3) := by decide +kernel
theorem dX6_greatestDepth_46 : decode cX6_greatestDepth 46 = .ok (.goto (-38), 3) := by decide +kernel
theorem dX6_greatestDepth_49 : decode cX6_greatestDepth 49 = .ok (.iload_n 1, 1) := by decide +kernel
theorem dX6_greatestDepth_50 : decode cX6_greatestDepth 50 = .ok (.ireturn, 1) := by decide +kernel
set_option maxRecDepth 20000 in
theorem ggX6_gather_X6_ofLevel : GoodIn wsX6_gather wsX6_ofLevel := goodIn_r _ [9, 10, 4, 11, 12, 13, 14, 15, 16, 40, 41, 42, 43, 44, 45, 46] (by decide +kernel) (by decide +kernel)
set_option maxRecDepth 20000 in
theorem gX6_gather_X6_ofLevel : GoodIn wsX6_gather (wsV RX6 57 RX6 yX6_ofLevel wsX6_ofLevel) := goodIn_app (goodIn_of _ (by decide +kernel)) ggX6_gather_X6_ofLevel
set_option maxRecDepth 20000 in
theorem ggX6_gather_X6_partAt : GoodIn wsX6_gather wsX6_partAt := goodIn_r _ [20, 21, 10, 11, 12, 13, 14, 15, 16, 22, 23, 24, 25, 26, 27, 28, 29, 30, 31, 32, 33, 34, 35, 36, 37, 38, 39, 40, 41, 42, 43, 44, 45, 46, 47, 48, 49, 50, 51, 52] (by decide +kernel) (by decide +kernel)
set_option maxRecDepth 20000 in
theorem gX6_gather_X6_partAt : GoodIn wsX6_gather (wsV RX6 53 RX6 yX6_partAt wsX6_partAt) := goodIn_app (goodIn_of _ (by decide +kernel)) ggX6_gather_X6_partAt
theorem dX6_gather_0 : decode cX6_gather 0 = .ok (.aload_n 0, 1) := by decide +kernel
theorem dX6_gather_1 : decode cX6_gather 1 = .ok (.iconst 0, 1) := by decide +kernel
theorem dX6_gather_2 : decode cX6_gather 2 = .ok (.putfield 95, 3) := by decide +kernel
theorem dX6_gather_5 : decode cX6_gather 5 = .ok (.bipush 9, 2) := by decide +kernel
theorem dX6_gather_7 : decode cX6_gather 7 = .ok (.istore_n 1, 1) := by decide +kernel
theorem dX6_gather_8 : decode cX6_gather 8 = .ok (.iload_n 1, 1) := by decide +kernel
theorem dX6_gather_9 : decode cX6_gather 9 = .ok (.ifCond .lt 91, 3) := by decide +kernel
theorem dX6_gather_12 : decode cX6_gather 12 = .ok (.aload_n 0, 1) := by decide +kernel
theorem dX6_gather_13 : decode cX6_gather 13 = .ok (.iload_n 1, 1) := by decide +kernel
theorem dX6_gather_14 : decode cX6_gather 14 = .ok (.invokevirtual 57, 3) := by decide +kernel
theorem dX6_gather_17 : decode cX6_gather 17 = .ok (.lstore_n 2, 1) := by decide +kernel
theorem dX6_gather_18 : decode cX6_gather 18 = .ok (.lload_n 2, 1) := by decide +kernel
theorem dX6_gather_19 : decode cX6_gather 19 = .ok (.lconst 0, 1) := by decide +kernel
theorem dX6_gather_20 : decode cX6_gather 20 = .ok (.lcmp, 1) := by decide +kernel
theorem dX6_gather_21 : decode cX6_gather 21 = .ok (.ifCond .eq 73, 3) := by decide +kernel
theorem dX6_gather_24 : decode cX6_gather 24 = .ok (.aload_n 0, 1) := by decide +kernel
theorem dX6_gather_25 : decode cX6_gather 25 = .ok (.getfield 95, 3) := by decide +kernel
theorem dX6_gather_28 : decode cX6_gather 28 = .ok (.ifCond .lt 66, 3) := by decide +kernel
theorem dX6_gather_31 : decode cX6_gather 31 = .ok (.aload_n 0, 1) := by decide +kernel
theorem dX6_gather_32 : decode cX6_gather 32 = .ok (.getfield 95, 3) := by decide +kernel
theorem dX6_gather_35 : decode cX6_gather 35 = .ok (.bipush 36, 2) := by decide +kernel
theorem dX6_gather_37 : decode cX6_gather 37 = .ok (.if_icmp .ge 57, 3) := by decide +kernel
theorem dX6_gather_40 : decode cX6_gather 40 = .ok (.aload_n 0, 1) := by decide +kernel
theorem dX6_gather_41 : decode cX6_gather 41 = .ok (.iload_n 1, 1) := by decide +kernel
theorem dX6_gather_42 : decode cX6_gather 42 = .ok (.lload_n 2, 1) := by decide +kernel
theorem dX6_gather_43 : decode cX6_gather 43 = .ok (.lload_n 2, 1) := by decide +kernel
theorem dX6_gather_44 : decode cX6_gather 44 = .ok (.lneg, 1) := by decide +kernel
theorem dX6_gather_45 : decode cX6_gather 45 = .ok (.land, 1) := by decide +kernel
theorem dX6_gather_46 : decode cX6_gather 46 = .ok (.invokevirtual 53, 3) := by decide +kernel
theorem dX6_gather_49 : decode cX6_gather 49 = .ok (.lstore 4, 2) := by decide +kernel
theorem dX6_gather_51 : decode cX6_gather 51 = .ok (.aload_n 0, 1) := by decide +kernel
theorem dX6_gather_52 : decode cX6_gather 52 = .ok (.getfield 9, 3) := by decide +kernel
theorem dX6_gather_55 : decode cX6_gather 55 = .ok (.aload_n 0, 1) := by decide +kernel
theorem dX6_gather_56 : decode cX6_gather 56 = .ok (.getfield 95, 3) := by decide +kernel
theorem dX6_gather_59 : decode cX6_gather 59 = .ok (.lload 4, 2) := by decide +kernel
theorem dX6_gather_61 : decode cX6_gather 61 = .ok (.lastore, 1) := by decide +kernel
theorem dX6_gather_62 : decode cX6_gather 62 = .ok (.aload_n 0, 1) := by decide +kernel
theorem dX6_gather_63 : decode cX6_gather 63 = .ok (.getfield 15, 3) := by decide +kernel
theorem dX6_gather_66 : decode cX6_gather 66 = .ok (.aload_n 0, 1) := by decide +kernel
theorem dX6_gather_67 : decode cX6_gather 67 = .ok (.getfield 95, 3) := by decide +kernel
theorem dX6_gather_70 : decode cX6_gather 70 = .ok (.iload_n 1, 1) := by decide +kernel
theorem dX6_gather_71 : decode cX6_gather 71 = .ok (.iastore, 1) := by decide +kernel
theorem dX6_gather_72 : decode cX6_gather 72 = .ok (.aload_n 0, 1) := by decide +kernel
theorem dX6_gather_73 : decode cX6_gather 73 = .ok (.dup, 1) := by decide +kernel
theorem dX6_gather_74 : decode cX6_gather 74 = .ok (.getfield 95, 3) := by decide +kernel
theorem dX6_gather_77 : decode cX6_gather 77 = .ok (.iconst 1, 1) := by decide +kernel
theorem dX6_gather_78 : decode cX6_gather 78 = .ok (.iadd, 1) := by decide +kernel
theorem dX6_gather_79 : decode cX6_gather 79 = .ok (.putfield 95, 3) := by decide +kernel
theorem dX6_gather_82 : decode cX6_gather 82 = .ok (.lload_n 2, 1) := by decide +kernel
theorem dX6_gather_83 : decode cX6_gather 83 = .ok (.lload 4, 2) := by decide +kernel
theorem dX6_gather_85 : decode cX6_gather 85 = .ok (.ldc2_w 43, 3) := by decide +kernel
theorem dX6_gather_88 : decode cX6_gather 88 = .ok (.lxor, 1) := by decide +kernel
theorem dX6_gather_89 : decode cX6_gather 89 = .ok (.land, 1) := by decide +kernel
theorem dX6_gather_90 : decode cX6_gather 90 = .ok (.lstore_n 2, 1) := by decide +kernel
theorem dX6_gather_91 : decode cX6_gather 91 = .ok (.goto (-73), 3) := by decide +kernel
theorem dX6_gather_94 : decode cX6_gather 94 = .ok (.iinc 1 (-1), 3) := by decide +kernel
theorem dX6_gather_97 : decode cX6_gather 97 = .ok (.goto (-89), 3) := by decide +kernel
theorem dX6_gather_100 : decode cX6_gather 100 = .ok (.return_, 1) := by decide +kernel
set_option maxRecDepth 20000 in
theorem ggX7_init_X5_init : GoodIn wsX7_init wsX5_init := goodIn_r _ [36, 37, 2, 3, 38, 39, 93, 94] (by decide +kernel) (by decide +kernel)
set_option maxRecDepth 20000 in
theorem gX7_init_X5_init_n9 : GoodIn wsX7_init (wsX5_init) := ggX7_init_X5_init
set_option maxRecDepth 20000 in
theorem ggX7_init_X1_init : GoodIn wsX7_init wsX1_init := goodIn_r _ [42, 43, 2, 3, 44, 45, 46, 10, 47, 48, 49, 50, 51, 52, 53, 105, 106, 107, 108, 109, 110] (by decide +kernel) (by decide +kernel)
set_option maxRecDepth 20000 in
theorem gX7_init_X1_init : GoodIn wsX7_init (wsX1_init) := ggX7_init_X1_init
set_option maxRecDepth 20000 in
theorem ggX7_init_X2_init : GoodIn wsX7_init wsX2_init := goodIn_r _ [56, 57, 2, 3, 58, 59, 60, 61, 62, 63, 14, 64, 65, 66, 67, 10, 68, 51, 111, 112, 105, 106, 107, 108, 109, 110] (by decide +kernel) (by decide +kernel)
set_option maxRecDepth 20000 in
theorem gX7_init_X2_init : GoodIn wsX7_init (wsX2_init) := ggX7_init_X2_init
set_option maxRecDepth 20000 in
theorem ggX7_init_X6_init : GoodIn wsX7_init wsX6_init := goodIn_r _ [71, 72, 2, 3, 58, 73, 38, 74, 75, 76, 113, 114, 115, 116, 117] (by decide +kernel) (by decide +kernel)
set_option maxRecDepth 20000 in
theorem gX7_init_X6_init : GoodIn wsX7_init (wsX6_init) := ggX7_init_X6_init
set_option maxRecDepth 20000 in
theorem ggX7_init_X0_init : GoodIn wsX7_init wsX0_init := goodIn_r _ [78, 79, 2, 3, 58, 80, 118, 119] (by decide +kernel) (by decide +kernel)
set_option maxRecDepth 20000 in
theorem gX7_init_X0_init_n49 : GoodIn wsX7_init (wsX0_init) := ggX7_init_X0_init
set_option maxRecDepth 20000 in
theorem ggX7_init_X4_init : GoodIn wsX7_init wsX4_init := goodIn_r _ [82, 83, 2, 3, 58, 84, 85, 86, 120, 121] (by decide +kernel) (by decide +kernel)
set_option maxRecDepth 20000 in
theorem gX7_init_X4_init_n56 : GoodIn wsX7_init (wsX4_init) := ggX7_init_X4_init
set_option maxRecDepth 20000 in
theorem ggX7_init_X3_init : GoodIn wsX7_init wsX3_init := goodIn_r _ [88, 89, 2, 3, 38, 90, 91, 85, 92, 122, 123, 124, 125] (by decide +kernel) (by decide +kernel)
set_option maxRecDepth 20000 in
theorem gX7_init_X3_init_n63 : GoodIn wsX7_init (wsX3_init) := ggX7_init_X3_init
theorem dX7_init_0 : decode cX7_init 0 = .ok (.aload_n 0, 1) := by decide +kernel
theorem dX7_init_1 : decode cX7_init 1 = .ok (.invokespecial 1, 3) := by decide +kernel
theorem dX7_init_4 : decode cX7_init 4 = .ok (.aload_n 0, 1) := by decide +kernel
theorem dX7_init_5 : decode cX7_init 5 = .ok (.new 7, 3) := by decide +kernel
theorem dX7_init_8 : decode cX7_init 8 = .ok (.dup, 1) := by decide +kernel
theorem dX7_init_9 : decode cX7_init 9 = .ok (.invokespecial 9, 3) := by decide +kernel
theorem dX7_init_12 : decode cX7_init 12 = .ok (.putfield 10, 3) := by decide +kernel
theorem dX7_init_15 : decode cX7_init 15 = .ok (.aload_n 0, 1) := by decide +kernel
theorem dX7_init_16 : decode cX7_init 16 = .ok (.new 16, 3) := by decide +kernel
theorem dX7_init_19 : decode cX7_init 19 = .ok (.dup, 1) := by decide +kernel
theorem dX7_init_20 : decode cX7_init 20 = .ok (.invokespecial 18, 3) := by decide +kernel
theorem dX7_init_23 : decode cX7_init 23 = .ok (.putfield 19, 3) := by decide +kernel
theorem dX7_init_26 : decode cX7_init 26 = .ok (.aload_n 0, 1) := by decide +kernel
theorem dX7_init_27 : decode cX7_init 27 = .ok (.new 23, 3) := by decide +kernel
theorem dX7_init_30 : decode cX7_init 30 = .ok (.dup, 1) := by decide +kernel
theorem dX7_init_31 : decode cX7_init 31 = .ok (.aload_n 0, 1) := by decide +kernel
theorem dX7_init_32 : decode cX7_init 32 = .ok (.getfield 19, 3) := by decide +kernel
theorem dX7_init_35 : decode cX7_init 35 = .ok (.invokespecial 25, 3) := by decide +kernel
theorem dX7_init_38 : decode cX7_init 38 = .ok (.putfield 28, 3) := by decide +kernel
theorem dX7_init_41 : decode cX7_init 41 = .ok (.aload_n 0, 1) := by decide +kernel
theorem dX7_init_42 : decode cX7_init 42 = .ok (.new 32, 3) := by decide +kernel
theorem dX7_init_45 : decode cX7_init 45 = .ok (.dup, 1) := by decide +kernel
theorem dX7_init_46 : decode cX7_init 46 = .ok (.aload_n 0, 1) := by decide +kernel
theorem dX7_init_47 : decode cX7_init 47 = .ok (.getfield 19, 3) := by decide +kernel
theorem dX7_init_50 : decode cX7_init 50 = .ok (.aload_n 0, 1) := by decide +kernel
theorem dX7_init_51 : decode cX7_init 51 = .ok (.getfield 28, 3) := by decide +kernel
theorem dX7_init_54 : decode cX7_init 54 = .ok (.invokespecial 34, 3) := by decide +kernel
theorem dX7_init_57 : decode cX7_init 57 = .ok (.putfield 37, 3) := by decide +kernel
theorem dX7_init_60 : decode cX7_init 60 = .ok (.aload_n 0, 1) := by decide +kernel
theorem dX7_init_61 : decode cX7_init 61 = .ok (.new 23, 3) := by decide +kernel
theorem dX7_init_64 : decode cX7_init 64 = .ok (.dup, 1) := by decide +kernel
theorem dX7_init_65 : decode cX7_init 65 = .ok (.aload_n 0, 1) := by decide +kernel
theorem dX7_init_66 : decode cX7_init 66 = .ok (.getfield 19, 3) := by decide +kernel
theorem dX7_init_69 : decode cX7_init 69 = .ok (.invokespecial 25, 3) := by decide +kernel
theorem dX7_init_72 : decode cX7_init 72 = .ok (.putfield 41, 3) := by decide +kernel
theorem dX7_init_75 : decode cX7_init 75 = .ok (.aload_n 0, 1) := by decide +kernel
theorem dX7_init_76 : decode cX7_init 76 = .ok (.new 32, 3) := by decide +kernel
theorem dX7_init_79 : decode cX7_init 79 = .ok (.dup, 1) := by decide +kernel
theorem dX7_init_80 : decode cX7_init 80 = .ok (.aload_n 0, 1) := by decide +kernel
theorem dX7_init_81 : decode cX7_init 81 = .ok (.getfield 19, 3) := by decide +kernel
theorem dX7_init_84 : decode cX7_init 84 = .ok (.aload_n 0, 1) := by decide +kernel
theorem dX7_init_85 : decode cX7_init 85 = .ok (.getfield 41, 3) := by decide +kernel
theorem dX7_init_88 : decode cX7_init 88 = .ok (.invokespecial 34, 3) := by decide +kernel
theorem dX7_init_91 : decode cX7_init 91 = .ok (.putfield 44, 3) := by decide +kernel
theorem dX7_init_94 : decode cX7_init 94 = .ok (.aload_n 0, 1) := by decide +kernel
theorem dX7_init_95 : decode cX7_init 95 = .ok (.new 47, 3) := by decide +kernel
theorem dX7_init_98 : decode cX7_init 98 = .ok (.dup, 1) := by decide +kernel
theorem dX7_init_99 : decode cX7_init 99 = .ok (.invokespecial 49, 3) := by decide +kernel
theorem dX7_init_102 : decode cX7_init 102 = .ok (.putfield 50, 3) := by decide +kernel
theorem dX7_init_105 : decode cX7_init 105 = .ok (.aload_n 0, 1) := by decide +kernel
theorem dX7_init_106 : decode cX7_init 106 = .ok (.new 54, 3) := by decide +kernel
theorem dX7_init_109 : decode cX7_init 109 = .ok (.dup, 1) := by decide +kernel
theorem dX7_init_110 : decode cX7_init 110 = .ok (.invokespecial 56, 3) := by decide +kernel
theorem dX7_init_113 : decode cX7_init 113 = .ok (.putfield 57, 3) := by decide +kernel
theorem dX7_init_116 : decode cX7_init 116 = .ok (.aload_n 0, 1) := by decide +kernel
theorem dX7_init_117 : decode cX7_init 117 = .ok (.new 61, 3) := by decide +kernel
theorem dX7_init_120 : decode cX7_init 120 = .ok (.dup, 1) := by decide +kernel
theorem dX7_init_121 : decode cX7_init 121 = .ok (.invokespecial 63, 3) := by decide +kernel
theorem dX7_init_124 : decode cX7_init 124 = .ok (.putfield 64, 3) := by decide +kernel
theorem dX7_init_127 : decode cX7_init 127 = .ok (.aload_n 0, 1) := by decide +kernel
theorem dX7_init_128 : decode cX7_init 128 = .ok (.lconst 0, 1) := by decide +kernel
theorem dX7_init_129 : decode cX7_init 129 = .ok (.putfield 68, 3) := by decide +kernel
theorem dX7_init_132 : decode cX7_init 132 = .ok (.return_, 1) := by decide +kernel
set_option maxRecDepth 20000 in
theorem ggX7_write_X5_add : GoodIn wsX7_write wsX5_add := goodIn_r _ [6, 7, 8, 23, 24] (by decide +kernel) (by decide +kernel)
set_option maxRecDepth 20000 in
theorem gX7_write_X5_add : GoodIn wsX7_write (wsV RX7 72 RX5 yX5_add wsX5_add) := goodIn_app (goodIn_of _ (by decide +kernel)) ggX7_write_X5_add
set_option maxRecDepth 20000 in
theorem ggX7_write_X5_size : GoodIn wsX7_write wsX5_size := goodIn_r _ [12, 7, 23, 24] (by decide +kernel) (by decide +kernel)
set_option maxRecDepth 20000 in
theorem gX7_write_X5_size : GoodIn wsX7_write (wsV RX7 76 RX5 yX5_size wsX5_size) := goodIn_app (goodIn_of _ (by decide +kernel)) ggX7_write_X5_size
theorem dX7_write_0 : decode cX7_write 0 = .ok (.iload_n 1, 1) := by decide +kernel
theorem dX7_write_1 : decode cX7_write 1 = .ok (.ifCond .lt 10, 3) := by decide +kernel
theorem dX7_write_4 : decode cX7_write 4 = .ok (.iload_n 1, 1) := by decide +kernel
theorem dX7_write_5 : decode cX7_write 5 = .ok (.sipush 255, 3) := by decide +kernel
theorem dX7_write_8 : decode cX7_write 8 = .ok (.if_icmp .le 6, 3) := by decide +kernel
theorem dX7_write_11 : decode cX7_write 11 = .ok (.bipush (-2), 2) := by decide +kernel
theorem dX7_write_13 : decode cX7_write 13 = .ok (.ireturn, 1) := by decide +kernel
theorem dX7_write_14 : decode cX7_write 14 = .ok (.aload_n 0, 1) := by decide +kernel
theorem dX7_write_15 : decode cX7_write 15 = .ok (.getfield 10, 3) := by decide +kernel
theorem dX7_write_18 : decode cX7_write 18 = .ok (.iload_n 1, 1) := by decide +kernel
theorem dX7_write_19 : decode cX7_write 19 = .ok (.invokevirtual 72, 3) := by decide +kernel
theorem dX7_write_22 : decode cX7_write 22 = .ok (.ifCond .eq 13, 3) := by decide +kernel
theorem dX7_write_25 : decode cX7_write 25 = .ok (.aload_n 0, 1) := by decide +kernel
theorem dX7_write_26 : decode cX7_write 26 = .ok (.getfield 10, 3) := by decide +kernel
theorem dX7_write_29 : decode cX7_write 29 = .ok (.invokevirtual 76, 3) := by decide +kernel
theorem dX7_write_32 : decode cX7_write 32 = .ok (.goto 5, 3) := by decide +kernel
theorem dX7_write_35 : decode cX7_write 35 = .ok (.bipush (-4), 2) := by decide +kernel
theorem dX7_write_37 : decode cX7_write 37 = .ok (.ireturn, 1) := by decide +kernel
set_option maxRecDepth 20000 in
theorem ggX7_wipe_X5_size : GoodIn wsX7_wipe wsX5_size := goodIn_r _ [6, 7, 22, 23] (by decide +kernel) (by decide +kernel)
set_option maxRecDepth 20000 in
theorem gX7_wipe_X5_size : GoodIn wsX7_wipe (wsV RX7 76 RX5 yX5_size wsX5_size) := goodIn_app (goodIn_of _ (by decide +kernel)) ggX7_wipe_X5_size
set_option maxRecDepth 20000 in
theorem ggX7_wipe_X5_clear : GoodIn wsX7_wipe wsX5_clear := goodIn_r _ [11, 7, 22, 23] (by decide +kernel) (by decide +kernel)
set_option maxRecDepth 20000 in
theorem gX7_wipe_X5_clear : GoodIn wsX7_wipe (wsV RX7 80 RX5 yX5_clear wsX5_clear) := goodIn_app (goodIn_of _ (by decide +kernel)) ggX7_wipe_X5_clear
theorem dX7_wipe_0 : decode cX7_wipe 0 = .ok (.aload_n 0, 1) := by decide +kernel
theorem dX7_wipe_1 : decode cX7_wipe 1 = .ok (.getfield 10, 3) := by decide +kernel
theorem dX7_wipe_4 : decode cX7_wipe 4 = .ok (.invokevirtual 76, 3) := by decide +kernel
theorem dX7_wipe_7 : decode cX7_wipe 7 = .ok (.istore_n 1, 1) := by decide +kernel
theorem dX7_wipe_8 : decode cX7_wipe 8 = .ok (.aload_n 0, 1) := by decide +kernel
theorem dX7_wipe_9 : decode cX7_wipe 9 = .ok (.getfield 10, 3) := by decide +kernel
theorem dX7_wipe_12 : decode cX7_wipe 12 = .ok (.invokevirtual 80, 3) := by decide +kernel
theorem dX7_wipe_15 : decode cX7_wipe 15 = .ok (.iload_n 1, 1) := by decide +kernel
theorem dX7_wipe_16 : decode cX7_wipe 16 = .ok (.ireturn, 1) := by decide +kernel
set_option maxRecDepth 20000 in
theorem ggX7_fault_X5_firstFault : GoodIn wsX7_fault wsX5_firstFault := goodIn_r _ [6, 7, 8, 9, 10, 5, 11, 12, 13, 14, 15, 16, 17, 18, 19, 20, 21, 22, 23, 34, 35] (by decide +kernel) (by decide +kernel)
set_option maxRecDepth 20000 in
theorem gX7_fault_X5_firstFault : GoodIn wsX7_fault (wsV RX7 83 RX5 yX5_firstFault wsX5_firstFault) := goodIn_app (goodIn_of _ (by decide +kernel)) ggX7_fault_X5_firstFault
theorem dX7_fault_0 : decode cX7_fault 0 = .ok (.aload_n 0, 1) := by decide +kernel
theorem dX7_fault_1 : decode cX7_fault 1 = .ok (.getfield 10, 3) := by decide +kernel
theorem dX7_fault_4 : decode cX7_fault 4 = .ok (.invokevirtual 83, 3) := by decide +kernel
theorem dX7_fault_7 : decode cX7_fault 7 = .ok (.ireturn, 1) := by decide +kernel
set_option maxRecDepth 20000 in
theorem ggX7_picture_X5_firstFault : GoodIn wsX7_picture wsX5_firstFault := goodIn_r _ [11, 12, 13, 14, 15, 10, 16, 17, 18, 19, 20, 21, 22, 23, 24, 25, 26, 27, 28, 123, 124] (by decide +kernel) (by decide +kernel)
set_option maxRecDepth 20000 in
theorem gX7_picture_X5_firstFault : GoodIn wsX7_picture (wsV RX7 83 RX5 yX5_firstFault wsX5_firstFault) := goodIn_app (goodIn_of _ (by decide +kernel)) ggX7_picture_X5_firstFault
set_option maxRecDepth 20000 in
theorem ggX7_picture_X5_figure : GoodIn wsX7_picture wsX5_figure := goodIn_r _ [20, 21, 123, 124] (by decide +kernel) (by decide +kernel)
set_option maxRecDepth 20000 in
theorem gX7_picture_X5_figure : GoodIn wsX7_picture (wsV RX7 86 RX5 yX5_figure wsX5_figure) := goodIn_app (goodIn_of _ (by decide +kernel)) ggX7_picture_X5_figure
set_option maxRecDepth 20000 in
theorem ggX7_picture_X1_lay : GoodIn wsX7_picture wsX1_lay := goodIn_r _ [34, 35, 36, 37, 38, 39, 40, 125, 126, 127, 128, 129, 130] (by decide +kernel) (by decide +kernel)
set_option maxRecDepth 20000 in
theorem gX7_picture_X1_lay : GoodIn wsX7_picture (wsV RX7 90 RX1 yX1_lay wsX1_lay) := goodIn_app (goodIn_of _ (by decide +kernel)) ggX7_picture_X1_lay
set_option maxRecDepth 20000 in
theorem ggX7_picture_X2_darken : GoodIn wsX7_picture wsX2_darken := goodIn_r _ [45, 46, 47, 48, 49, 50, 33, 51, 38, 131, 132, 125, 126, 127, 128, 129, 130] (by decide +kernel) (by decide +kernel)
set_option maxRecDepth 20000 in
theorem gX7_picture_X2_darken : GoodIn wsX7_picture (wsV RX7 94 RX2 yX2_darken wsX2_darken) := goodIn_app (goodIn_of _ (by decide +kernel)) ggX7_picture_X2_darken
set_option maxRecDepth 20000 in
theorem ggX7_picture_X1_size : GoodIn wsX7_picture wsX1_size := goodIn_r _ [55, 36, 37, 125, 126, 127, 128, 129, 130] (by decide +kernel) (by decide +kernel)
set_option maxRecDepth 20000 in
theorem gX7_picture_X1_size : GoodIn wsX7_picture (wsV RX7 97 RX1 yX1_size wsX1_size) := goodIn_app (goodIn_of _ (by decide +kernel)) ggX7_picture_X1_size
set_option maxRecDepth 20000 in
theorem ggX7_picture_X2_set : GoodIn wsX7_picture wsX2_set := goodIn_r _ [59, 46, 60, 131, 132] (by decide +kernel) (by decide +kernel)
set_option maxRecDepth 20000 in
theorem gX7_picture_X2_set : GoodIn wsX7_picture (wsV RX7 98 RX2 yX2_set wsX2_set) := goodIn_app (goodIn_of _ (by decide +kernel)) ggX7_picture_X2_set
set_option maxRecDepth 20000 in
theorem ggX7_picture_X0_clear : GoodIn wsX7_picture wsX0_clear := goodIn_r _ [65, 66, 133, 134] (by decide +kernel) (by decide +kernel)
set_option maxRecDepth 20000 in
theorem gX7_picture_X0_clear : GoodIn wsX7_picture (wsV RX7 102 RX0 yX0_clear wsX0_clear) := goodIn_app (goodIn_of _ (by decide +kernel)) ggX7_picture_X0_clear
set_option maxRecDepth 20000 in
theorem ggX7_picture_X4_clear : GoodIn wsX7_picture wsX4_clear := goodIn_r _ [71, 72, 135, 136] (by decide +kernel) (by decide +kernel)
set_option maxRecDepth 20000 in
theorem gX7_picture_X4_clear : GoodIn wsX7_picture (wsV RX7 103 RX4 yX4_clear wsX4_clear) := goodIn_app (goodIn_of _ (by decide +kernel)) ggX7_picture_X4_clear
set_option maxRecDepth 20000 in
theorem ggX7_picture_X6_countNodes : GoodIn wsX7_picture wsX6_countNodes := goodIn_r _ [77, 78, 79, 80, 81, 76, 82, 83, 84, 85, 86, 87, 88, 89, 90, 91, 92, 93, 44, 94, 46, 95, 96, 97, 98, 99, 100, 101, 102, 33, 103, 35, 104, 105, 106, 107, 108, 109, 110, 111, 40, 112, 39, 36, 137, 138, 139, 140, 141, 131, 132, 125, 126, 127, 128, 129, 130] (by decide +kernel) (by decide +kernel)
set_option maxRecDepth 20000 in
theorem gX7_picture_X6_countNodes : GoodIn wsX7_picture (wsV RX7 104 RX6 yX6_countNodes wsX6_countNodes) := goodIn_app (goodIn_of _ (by decide +kernel)) ggX7_picture_X6_countNodes
theorem dX7_picture_0 : decode cX7_picture 0 = .ok (.aload_n 0, 1) := by decide +kernel
theorem dX7_picture_1 : decode cX7_picture 1 = .ok (.getfield 10, 3) := by decide +kernel
theorem dX7_picture_4 : decode cX7_picture 4 = .ok (.invokevirtual 83, 3) := by decide +kernel
theorem dX7_picture_7 : decode cX7_picture 7 = .ok (.bipush (-9), 2) := by decide +kernel
theorem dX7_picture_9 : decode cX7_picture 9 = .ok (.if_icmp .eq 6, 3) := by decide +kernel
theorem dX7_picture_12 : decode cX7_picture 12 = .ok (.bipush (-3), 2) := by decide +kernel
theorem dX7_picture_14 : decode cX7_picture 14 = .ok (.ireturn, 1) := by decide +kernel
theorem dX7_picture_15 : decode cX7_picture 15 = .ok (.aload_n 0, 1) := by decide +kernel
theorem dX7_picture_16 : decode cX7_picture 16 = .ok (.getfield 19, 3) := by decide +kernel
theorem dX7_picture_19 : decode cX7_picture 19 = .ok (.aload_n 0, 1) := by decide +kernel
theorem dX7_picture_20 : decode cX7_picture 20 = .ok (.getfield 10, 3) := by decide +kernel
theorem dX7_picture_23 : decode cX7_picture 23 = .ok (.iconst 1, 1) := by decide +kernel
theorem dX7_picture_24 : decode cX7_picture 24 = .ok (.invokevirtual 86, 3) := by decide +kernel
theorem dX7_picture_27 : decode cX7_picture 27 = .ok (.aload_n 0, 1) := by decide +kernel
theorem dX7_picture_28 : decode cX7_picture 28 = .ok (.getfield 10, 3) := by decide +kernel
theorem dX7_picture_31 : decode cX7_picture 31 = .ok (.iconst 2, 1) := by decide +kernel
theorem dX7_picture_32 : decode cX7_picture 32 = .ok (.invokevirtual 86, 3) := by decide +kernel
theorem dX7_picture_35 : decode cX7_picture 35 = .ok (.aload_n 0, 1) := by decide +kernel
theorem dX7_picture_36 : decode cX7_picture 36 = .ok (.getfield 10, 3) := by decide +kernel
theorem dX7_picture_39 : decode cX7_picture 39 = .ok (.iconst 3, 1) := by decide +kernel
theorem dX7_picture_40 : decode cX7_picture 40 = .ok (.invokevirtual 86, 3) := by decide +kernel
theorem dX7_picture_43 : decode cX7_picture 43 = .ok (.invokevirtual 90, 3) := by decide +kernel
theorem dX7_picture_46 : decode cX7_picture 46 = .ok (.aload_n 0, 1) := by decide +kernel
theorem dX7_picture_47 : decode cX7_picture 47 = .ok (.getfield 28, 3) := by decide +kernel
theorem dX7_picture_50 : decode cX7_picture 50 = .ok (.invokevirtual 94, 3) := by decide +kernel
theorem dX7_picture_53 : decode cX7_picture 53 = .ok (.iconst 0, 1) := by decide +kernel
theorem dX7_picture_54 : decode cX7_picture 54 = .ok (.istore_n 1, 1) := by decide +kernel
theorem dX7_picture_55 : decode cX7_picture 55 = .ok (.iload_n 1, 1) := by decide +kernel
theorem dX7_picture_56 : decode cX7_picture 56 = .ok (.aload_n 0, 1) := by decide +kernel
theorem dX7_picture_57 : decode cX7_picture 57 = .ok (.getfield 19, 3) := by decide +kernel
theorem dX7_picture_60 : decode cX7_picture 60 = .ok (.invokevirtual 97, 3) := by decide +kernel
theorem dX7_picture_63 : decode cX7_picture 63 = .ok (.if_icmp .ge 27, 3) := by decide +kernel
theorem dX7_picture_66 : decode cX7_picture 66 = .ok (.aload_n 0, 1) := by decide +kernel
theorem dX7_picture_67 : decode cX7_picture 67 = .ok (.getfield 28, 3) := by decide +kernel
theorem dX7_picture_70 : decode cX7_picture 70 = .ok (.iload_n 1, 1) := by decide +kernel
theorem dX7_picture_71 : decode cX7_picture 71 = .ok (.aload_n 0, 1) := by decide +kernel
theorem dX7_picture_72 : decode cX7_picture 72 = .ok (.getfield 10, 3) := by decide +kernel
theorem dX7_picture_75 : decode cX7_picture 75 = .ok (.iconst 4, 1) := by decide +kernel
theorem dX7_picture_76 : decode cX7_picture 76 = .ok (.iload_n 1, 1) := by decide +kernel
theorem dX7_picture_77 : decode cX7_picture 77 = .ok (.iadd, 1) := by decide +kernel
theorem dX7_picture_78 : decode cX7_picture 78 = .ok (.invokevirtual 86, 3) := by decide +kernel
theorem dX7_picture_81 : decode cX7_picture 81 = .ok (.invokevirtual 98, 3) := by decide +kernel
theorem dX7_picture_84 : decode cX7_picture 84 = .ok (.iinc 1 1, 3) := by decide +kernel
theorem dX7_picture_87 : decode cX7_picture 87 = .ok (.goto (-32), 3) := by decide +kernel
theorem dX7_picture_90 : decode cX7_picture 90 = .ok (.aload_n 0, 1) := by decide +kernel
theorem dX7_picture_91 : decode cX7_picture 91 = .ok (.getfield 50, 3) := by decide +kernel
theorem dX7_picture_94 : decode cX7_picture 94 = .ok (.invokevirtual 102, 3) := by decide +kernel
theorem dX7_picture_97 : decode cX7_picture 97 = .ok (.aload_n 0, 1) := by decide +kernel
theorem dX7_picture_98 : decode cX7_picture 98 = .ok (.getfield 57, 3) := by decide +kernel
theorem dX7_picture_101 : decode cX7_picture 101 = .ok (.invokevirtual 103, 3) := by decide +kernel
theorem dX7_picture_104 : decode cX7_picture 104 = .ok (.aload_n 0, 1) := by decide +kernel
theorem dX7_picture_105 : decode cX7_picture 105 = .ok (.getfield 37, 3) := by decide +kernel
theorem dX7_picture_108 : decode cX7_picture 108 = .ok (.invokevirtual 104, 3) := by decide +kernel
theorem dX7_picture_111 : decode cX7_picture 111 = .ok (.ireturn, 1) := by decide +kernel
set_option maxRecDepth 20000 in
theorem ggX7_about_X1_way : GoodIn wsX7_about wsX1_way := goodIn_r _ [11, 12, 124, 125, 126, 127, 128, 129] (by decide +kernel) (by decide +kernel)
set_option maxRecDepth 20000 in
theorem gX7_about_X1_way : GoodIn wsX7_about (wsV RX7 107 RX1 yX1_way wsX1_way) := goodIn_app (goodIn_of _ (by decide +kernel)) ggX7_about_X1_way
set_option maxRecDepth 20000 in
theorem ggX7_about_X1_wide : GoodIn wsX7_about wsX1_wide := goodIn_r _ [16, 17, 124, 125, 126, 127, 128, 129] (by decide +kernel) (by decide +kernel)
set_option maxRecDepth 20000 in
theorem gX7_about_X1_wide : GoodIn wsX7_about (wsV RX7 110 RX1 yX1_wide wsX1_wide) := goodIn_app (goodIn_of _ (by decide +kernel)) ggX7_about_X1_wide
set_option maxRecDepth 20000 in
theorem ggX7_about_X1_high : GoodIn wsX7_about wsX1_high := goodIn_r _ [21, 22, 124, 125, 126, 127, 128, 129] (by decide +kernel) (by decide +kernel)
set_option maxRecDepth 20000 in
theorem gX7_about_X1_high : GoodIn wsX7_about (wsV RX7 113 RX1 yX1_high wsX1_high) := goodIn_app (goodIn_of _ (by decide +kernel)) ggX7_about_X1_high
set_option maxRecDepth 20000 in
theorem ggX7_about_X6_countNodes : GoodIn wsX7_about wsX6_countNodes := goodIn_r _ [27, 28, 29, 30, 31, 26, 32, 33, 34, 35, 36, 37, 38, 39, 40, 41, 42, 43, 44, 45, 46, 47, 48, 49, 50, 51, 52, 8, 9, 10, 11, 12, 53, 54, 55, 56, 57, 58, 59, 60, 61, 62, 63, 17, 130, 131, 132, 133, 134, 135, 136, 124, 125, 126, 127, 128, 129] (by decide +kernel) (by decide +kernel)
set_option maxRecDepth 20000 in
theorem gX7_about_X6_countNodes : GoodIn wsX7_about (wsV RX7 104 RX6 yX6_countNodes wsX6_countNodes) := goodIn_app (goodIn_of _ (by decide +kernel)) ggX7_about_X6_countNodes
set_option maxRecDepth 20000 in
theorem ggX7_about_X6_countLeaves : GoodIn wsX7_about wsX6_countLeaves := goodIn_r _ [67, 28, 33, 40, 34, 29, 30, 31, 26, 32, 35, 36, 37, 38, 39, 41, 42, 43, 44, 45, 46, 47, 48, 49, 50, 51, 52, 8, 9, 10, 11, 12, 53, 54, 55, 56, 57, 58, 59, 60, 61, 62, 63, 17, 130, 131, 132, 133, 134, 135, 136, 124, 125, 126, 127, 128, 129] (by decide +kernel) (by decide +kernel)
set_option maxRecDepth 20000 in
theorem gX7_about_X6_countLeaves : GoodIn wsX7_about (wsV RX7 116 RX6 yX6_countLeaves wsX6_countLeaves) := goodIn_app (goodIn_of _ (by decide +kernel)) ggX7_about_X6_countLeaves
set_option maxRecDepth 20000 in
theorem ggX7_about_X6_greatestDepth : GoodIn wsX7_about wsX6_greatestDepth := goodIn_r _ [71, 28, 33, 34, 72, 73, 74, 75, 29, 30, 31, 26, 32, 35, 36, 37, 38, 39, 40, 41, 42, 43, 44, 45, 46, 47, 48, 49, 50, 51, 52, 8, 9, 10, 11, 12, 53, 54, 55, 56, 57, 58, 59, 60, 61, 62, 63, 17, 76, 77, 78, 79, 130, 131, 132, 133, 134, 135, 136, 124, 125, 126, 127, 128, 129] (by decide +kernel) (by decide +kernel)
set_option maxRecDepth 20000 in
theorem gX7_about_X6_greatestDepth : GoodIn wsX7_about (wsV RX7 119 RX6 yX6_greatestDepth wsX6_greatestDepth) := goodIn_app (goodIn_of _ (by decide +kernel)) ggX7_about_X6_greatestDepth
set_option maxRecDepth 20000 in
theorem ggX7_about_X1_all : GoodIn wsX7_about wsX1_all := goodIn_r _ [83, 84, 124, 125, 126, 127, 128, 129] (by decide +kernel) (by decide +kernel)
set_option maxRecDepth 20000 in
theorem gX7_about_X1_all : GoodIn wsX7_about (wsV RX7 122 RX1 yX1_all wsX1_all) := goodIn_app (goodIn_of _ (by decide +kernel)) ggX7_about_X1_all
set_option maxRecDepth 20000 in
theorem ggX7_about_X2_light : GoodIn wsX7_about wsX2_light := goodIn_r _ [88, 46, 89, 90, 91, 92, 93, 94, 95, 135, 136] (by decide +kernel) (by decide +kernel)
set_option maxRecDepth 20000 in
theorem gX7_about_X2_light : GoodIn wsX7_about (wsV RX7 126 RX2 yX2_light wsX2_light) := goodIn_app (goodIn_of _ (by decide +kernel)) ggX7_about_X2_light
set_option maxRecDepth 20000 in
theorem ggX7_about_X0_size : GoodIn wsX7_about wsX0_size := goodIn_r _ [100, 101, 137, 138] (by decide +kernel) (by decide +kernel)
set_option maxRecDepth 20000 in
theorem gX7_about_X0_size : GoodIn wsX7_about (wsV RX7 130 RX0 yX0_size wsX0_size) := goodIn_app (goodIn_of _ (by decide +kernel)) ggX7_about_X0_size
set_option maxRecDepth 20000 in
theorem ggX7_about_X3_size : GoodIn wsX7_about wsX3_size := goodIn_r _ [106, 107, 139, 140, 141, 142] (by decide +kernel) (by decide +kernel)
set_option maxRecDepth 20000 in
theorem gX7_about_X3_size : GoodIn wsX7_about (wsV RX7 131 RX3 yX3_size wsX3_size) := goodIn_app (goodIn_of _ (by decide +kernel)) ggX7_about_X3_size
set_option maxRecDepth 20000 in
theorem ggX7_about_X5_size : GoodIn wsX7_about wsX5_size := goodIn_r _ [112, 113, 143, 144] (by decide +kernel) (by decide +kernel)
set_option maxRecDepth 20000 in
theorem gX7_about_X5_size : GoodIn wsX7_about (wsV RX7 76 RX5 yX5_size wsX5_size) := goodIn_app (goodIn_of _ (by decide +kernel)) ggX7_about_X5_size
theorem dX7_about_0 : decode cX7_about 0 = .ok (.iload_n 1, 1) := by decide +kernel
theorem dX7_about_1 : decode cX7_about 1 = .ok (.tableswitch 142 0 9 #[55, 63, 71, 79, 87, 95, 103, 118, 126, 134], 55) := by decide +kernel
theorem dX7_about_56 : decode cX7_about 56 = .ok (.aload_n 0, 1) := by decide +kernel
theorem dX7_about_57 : decode cX7_about 57 = .ok (.getfield 19, 3) := by decide +kernel
theorem dX7_about_60 : decode cX7_about 60 = .ok (.invokevirtual 107, 3) := by decide +kernel
theorem dX7_about_63 : decode cX7_about 63 = .ok (.ireturn, 1) := by decide +kernel
theorem dX7_about_64 : decode cX7_about 64 = .ok (.aload_n 0, 1) := by decide +kernel
theorem dX7_about_65 : decode cX7_about 65 = .ok (.getfield 19, 3) := by decide +kernel
theorem dX7_about_68 : decode cX7_about 68 = .ok (.invokevirtual 110, 3) := by decide +kernel
theorem dX7_about_71 : decode cX7_about 71 = .ok (.ireturn, 1) := by decide +kernel
theorem dX7_about_72 : decode cX7_about 72 = .ok (.aload_n 0, 1) := by decide +kernel
theorem dX7_about_73 : decode cX7_about 73 = .ok (.getfield 19, 3) := by decide +kernel
theorem dX7_about_76 : decode cX7_about 76 = .ok (.invokevirtual 113, 3) := by decide +kernel
theorem dX7_about_79 : decode cX7_about 79 = .ok (.ireturn, 1) := by decide +kernel
theorem dX7_about_80 : decode cX7_about 80 = .ok (.aload_n 0, 1) := by decide +kernel
theorem dX7_about_81 : decode cX7_about 81 = .ok (.getfield 37, 3) := by decide +kernel
theorem dX7_about_84 : decode cX7_about 84 = .ok (.invokevirtual 104, 3) := by decide +kernel
theorem dX7_about_87 : decode cX7_about 87 = .ok (.ireturn, 1) := by decide +kernel
theorem dX7_about_88 : decode cX7_about 88 = .ok (.aload_n 0, 1) := by decide +kernel
theorem dX7_about_89 : decode cX7_about 89 = .ok (.getfield 37, 3) := by decide +kernel
theorem dX7_about_92 : decode cX7_about 92 = .ok (.invokevirtual 116, 3) := by decide +kernel
theorem dX7_about_95 : decode cX7_about 95 = .ok (.ireturn, 1) := by decide +kernel
theorem dX7_about_96 : decode cX7_about 96 = .ok (.aload_n 0, 1) := by decide +kernel
theorem dX7_about_97 : decode cX7_about 97 = .ok (.getfield 37, 3) := by decide +kernel
theorem dX7_about_100 : decode cX7_about 100 = .ok (.invokevirtual 119, 3) := by decide +kernel
theorem dX7_about_103 : decode cX7_about 103 = .ok (.ireturn, 1) := by decide +kernel
theorem dX7_about_104 : decode cX7_about 104 = .ok (.aload_n 0, 1) := by decide +kernel
theorem dX7_about_105 : decode cX7_about 105 = .ok (.getfield 28, 3) := by decide +kernel
theorem dX7_about_108 : decode cX7_about 108 = .ok (.aload_n 0, 1) := by decide +kernel
theorem dX7_about_109 : decode cX7_about 109 = .ok (.getfield 19, 3) := by decide +kernel
theorem dX7_about_112 : decode cX7_about 112 = .ok (.invokevirtual 122, 3) := by decide +kernel
theorem dX7_about_115 : decode cX7_about 115 = .ok (.invokevirtual 126, 3) := by decide +kernel
theorem dX7_about_118 : decode cX7_about 118 = .ok (.ireturn, 1) := by decide +kernel
theorem dX7_about_119 : decode cX7_about 119 = .ok (.aload_n 0, 1) := by decide +kernel
theorem dX7_about_120 : decode cX7_about 120 = .ok (.getfield 50, 3) := by decide +kernel
theorem dX7_about_123 : decode cX7_about 123 = .ok (.invokevirtual 130, 3) := by decide +kernel
theorem dX7_about_126 : decode cX7_about 126 = .ok (.ireturn, 1) := by decide +kernel
theorem dX7_about_127 : decode cX7_about 127 = .ok (.aload_n 0, 1) := by decide +kernel
theorem dX7_about_128 : decode cX7_about 128 = .ok (.getfield 64, 3) := by decide +kernel
theorem dX7_about_131 : decode cX7_about 131 = .ok (.invokevirtual 131, 3) := by decide +kernel
theorem dX7_about_134 : decode cX7_about 134 = .ok (.ireturn, 1) := by decide +kernel
theorem dX7_about_135 : decode cX7_about 135 = .ok (.aload_n 0, 1) := by decide +kernel
theorem dX7_about_136 : decode cX7_about 136 = .ok (.getfield 10, 3) := by decide +kernel
theorem dX7_about_139 : decode cX7_about 139 = .ok (.invokevirtual 76, 3) := by decide +kernel
theorem dX7_about_142 : decode cX7_about 142 = .ok (.ireturn, 1) := by decide +kernel
theorem dX7_about_143 : decode cX7_about 143 = .ok (.bipush (-2), 2) := by decide +kernel
theorem dX7_about_145 : decode cX7_about 145 = .ok (.ireturn, 1) := by decide +kernel
set_option maxRecDepth 20000 in
theorem ggX7_shade_X1_hasDot : GoodIn wsX7_shade wsX1_hasDot := goodIn_r _ [7, 8, 9, 10, 6, 11, 12, 13, 30, 31, 32, 33, 34, 35] (by decide +kernel) (by decide +kernel)
set_option maxRecDepth 20000 in
theorem gX7_shade_X1_hasDot : GoodIn wsX7_shade (wsV RX7 132 RX1 yX1_hasDot wsX1_hasDot) := goodIn_app (goodIn_of _ (by decide +kernel)) ggX7_shade_X1_hasDot
set_option maxRecDepth 20000 in
theorem ggX7_shade_X2_of : GoodIn wsX7_shade wsX2_of := goodIn_r _ [18, 19, 36, 37] (by decide +kernel) (by decide +kernel)
set_option maxRecDepth 20000 in
theorem gX7_shade_X2_of : GoodIn wsX7_shade (wsV RX7 135 RX2 yX2_of wsX2_of) := goodIn_app (goodIn_of _ (by decide +kernel)) ggX7_shade_X2_of
theorem dX7_shade_0 : decode cX7_shade 0 = .ok (.aload_n 0, 1) := by decide +kernel
theorem dX7_shade_1 : decode cX7_shade 1 = .ok (.getfield 19, 3) := by decide +kernel
theorem dX7_shade_4 : decode cX7_shade 4 = .ok (.iload_n 1, 1) := by decide +kernel
theorem dX7_shade_5 : decode cX7_shade 5 = .ok (.invokevirtual 132, 3) := by decide +kernel
theorem dX7_shade_8 : decode cX7_shade 8 = .ok (.ifCond .eq 14, 3) := by decide +kernel
theorem dX7_shade_11 : decode cX7_shade 11 = .ok (.aload_n 0, 1) := by decide +kernel
theorem dX7_shade_12 : decode cX7_shade 12 = .ok (.getfield 28, 3) := by decide +kernel
theorem dX7_shade_15 : decode cX7_shade 15 = .ok (.iload_n 1, 1) := by decide +kernel
theorem dX7_shade_16 : decode cX7_shade 16 = .ok (.invokevirtual 135, 3) := by decide +kernel
theorem dX7_shade_19 : decode cX7_shade 19 = .ok (.goto 4, 3) := by decide +kernel
theorem dX7_shade_22 : decode cX7_shade 22 = .ok (.iconst (-1), 1) := by decide +kernel
theorem dX7_shade_23 : decode cX7_shade 23 = .ok (.ireturn, 1) := by decide +kernel
set_option maxRecDepth 20000 in
theorem ggX7_node_X1_hasDot : GoodIn wsX7_node wsX1_hasDot := goodIn_r _ [8, 9, 10, 11, 7, 12, 13, 14, 129, 130, 131, 132, 133, 134] (by decide +kernel) (by decide +kernel)
set_option maxRecDepth 20000 in
theorem gX7_node_X1_hasDot : GoodIn wsX7_node (wsV RX7 132 RX1 yX1_hasDot wsX1_hasDot) := goodIn_app (goodIn_of _ (by decide +kernel)) ggX7_node_X1_hasDot
set_option maxRecDepth 20000 in
theorem ggX7_node_X2_of : GoodIn wsX7_node wsX2_of := goodIn_r _ [19, 20, 135, 136] (by decide +kernel) (by decide +kernel)
set_option maxRecDepth 20000 in
theorem gX7_node_X2_of : GoodIn wsX7_node (wsV RX7 135 RX2 yX2_of wsX2_of) := goodIn_app (goodIn_of _ (by decide +kernel)) ggX7_node_X2_of
set_option maxRecDepth 20000 in
theorem ggX7_node_X6_nodeOf : GoodIn wsX7_node wsX6_nodeOf := goodIn_r _ [25, 26, 27, 28, 5, 6, 7, 8, 9, 10, 11, 12, 13, 14, 29, 16, 17, 18, 19, 20, 30, 31, 32, 24, 33, 34, 35, 36, 37, 38, 39, 40, 41, 42, 43, 44, 45, 46, 47, 48, 49, 50, 51, 52, 53, 137, 138, 139, 140, 141, 129, 130, 131, 132, 133, 134, 135, 136] (by decide +kernel) (by decide +kernel)
set_option maxRecDepth 20000 in
theorem gX7_node_X6_nodeOf : GoodIn wsX7_node (wsV RX7 138 RX6 yX6_nodeOf wsX6_nodeOf) := goodIn_app (goodIn_of _ (by decide +kernel)) ggX7_node_X6_nodeOf
set_option maxRecDepth 20000 in
theorem ggX7_node_X6_head : GoodIn wsX7_node wsX6_head := goodIn_r _ [57, 58, 59, 60, 24, 61, 27, 62, 34, 35, 36, 18, 37, 20, 63, 64, 65, 66, 67, 68, 69, 137, 138, 139, 140, 141, 135, 136] (by decide +kernel) (by decide +kernel)
set_option maxRecDepth 20000 in
theorem gX7_node_X6_head : GoodIn wsX7_node (wsV RX7 142 RX6 yX6_head wsX6_head) := goodIn_app (goodIn_of _ (by decide +kernel)) ggX7_node_X6_head
set_option maxRecDepth 20000 in
theorem ggX7_node_J13_bitCount_95d88 : GoodIn wsX7_node wsJ13_bitCount_95d88 := goodIn_r _ [66, 67, 68, 69] (by decide +kernel) (by decide +kernel)
set_option maxRecDepth 20000 in
theorem gX7_node_J13_bitCount_95d88 : GoodIn wsX7_node (va_wsS RX7 146 yJ13_bitCount_95d88 wsJ13_bitCount_95d88) := goodIn_app (goodIn_of _ (by decide +kernel)) ggX7_node_J13_bitCount_95d88
set_option maxRecDepth 20000 in
theorem ggX7_node_X2_light : GoodIn wsX7_node wsX2_light := goodIn_r _ [74, 20, 75, 64, 65, 66, 67, 68, 69, 135, 136] (by decide +kernel) (by decide +kernel)
set_option maxRecDepth 20000 in
theorem gX7_node_X2_light : GoodIn wsX7_node (wsV RX7 126 RX2 yX2_light wsX2_light) := goodIn_app (goodIn_of _ (by decide +kernel)) ggX7_node_X2_light
set_option maxRecDepth 20000 in
theorem ggX7_node_X6_parentHead : GoodIn wsX7_node wsX6_parentHead := goodIn_r _ [79, 80, 81, 82, 24, 83, 30, 31, 32, 33, 26, 27, 34, 35, 36, 18, 37, 20, 38, 39, 40, 7, 41, 42, 43, 44, 45, 46, 47, 48, 49, 50, 51, 52, 53, 13, 84, 55, 56, 57, 58, 59, 60, 61, 62, 63, 64, 65, 66, 67, 68, 69, 137, 138, 139, 140, 141, 135, 136, 129, 130, 131, 132, 133, 134] (by decide +kernel) (by decide +kernel)
set_option maxRecDepth 20000 in
theorem gX7_node_X6_parentHead : GoodIn wsX7_node (wsV RX7 151 RX6 yX6_parentHead wsX6_parentHead) := goodIn_app (goodIn_of _ (by decide +kernel)) ggX7_node_X6_parentHead
set_option maxRecDepth 20000 in
theorem ggX7_node_X6_countChildren : GoodIn wsX7_node wsX6_countChildren := goodIn_r _ [88, 26, 27, 34, 35, 36, 18, 37, 20, 38, 39, 40, 7, 41, 42, 89, 90, 91, 92, 52, 93, 44, 45, 46, 47, 48, 49, 50, 51, 53, 13, 137, 138, 139, 140, 141, 135, 136, 129, 130, 131, 132, 133, 134] (by decide +kernel) (by decide +kernel)
set_option maxRecDepth 20000 in
theorem gX7_node_X6_countChildren : GoodIn wsX7_node (wsV RX7 154 RX6 yX6_countChildren wsX6_countChildren) := goodIn_app (goodIn_of _ (by decide +kernel)) ggX7_node_X6_countChildren
set_option maxRecDepth 20000 in
theorem ggX7_node_X6_depth : GoodIn wsX7_node wsX6_depth := goodIn_r _ [97, 30, 31, 32, 24, 33, 26, 27, 34, 35, 36, 18, 37, 20, 38, 39, 40, 7, 41, 42, 43, 44, 45, 46, 47, 48, 49, 50, 51, 52, 53, 13, 137, 138, 139, 140, 141, 135, 136, 129, 130, 131, 132, 133, 134] (by decide +kernel) (by decide +kernel)
set_option maxRecDepth 20000 in
theorem gX7_node_X6_depth : GoodIn wsX7_node (wsV RX7 157 RX6 yX6_depth wsX6_depth) := goodIn_app (goodIn_of _ (by decide +kernel)) ggX7_node_X6_depth
set_option maxRecDepth 20000 in
theorem ggX7_node_X1_columnsOf : GoodIn wsX7_node wsX1_columnsOf := goodIn_r _ [101, 13, 53, 129, 130, 131, 132, 133, 134] (by decide +kernel) (by decide +kernel)
set_option maxRecDepth 20000 in
theorem gX7_node_X1_columnsOf : GoodIn wsX7_node (wsV RX7 160 RX1 yX1_columnsOf wsX1_columnsOf) := goodIn_app (goodIn_of _ (by decide +kernel)) ggX7_node_X1_columnsOf
set_option maxRecDepth 20000 in
theorem ggX7_node_X1_rowsOf : GoodIn wsX7_node wsX1_rowsOf := goodIn_r _ [105, 14, 106, 107, 108, 7, 109, 13, 129, 130, 131, 132, 133, 134] (by decide +kernel) (by decide +kernel)
set_option maxRecDepth 20000 in
theorem gX7_node_X1_rowsOf : GoodIn wsX7_node (wsV RX7 163 RX1 yX1_rowsOf wsX1_rowsOf) := goodIn_app (goodIn_of _ (by decide +kernel)) ggX7_node_X1_rowsOf
set_option maxRecDepth 20000 in
theorem ggX7_node_X6_rise : GoodIn wsX7_node wsX6_rise := goodIn_r _ [113, 27, 114, 115, 116, 18, 117, 118, 35, 36, 37, 20, 34, 30, 31, 32, 24, 33, 26, 38, 39, 40, 7, 41, 42, 43, 44, 45, 46, 47, 48, 49, 50, 51, 52, 53, 13, 137, 138, 139, 140, 141, 135, 136, 129, 130, 131, 132, 133, 134] (by decide +kernel) (by decide +kernel)
set_option maxRecDepth 20000 in
theorem gX7_node_X6_rise : GoodIn wsX7_node (wsV RX7 166 RX6 yX6_rise wsX6_rise) := goodIn_app (goodIn_of _ (by decide +kernel)) ggX7_node_X6_rise
theorem dX7_node_0 : decode cX7_node 0 = .ok (.aload_n 0, 1) := by decide +kernel
theorem dX7_node_1 : decode cX7_node 1 = .ok (.getfield 19, 3) := by decide +kernel
theorem dX7_node_4 : decode cX7_node 4 = .ok (.iload_n 1, 1) := by decide +kernel
theorem dX7_node_5 : decode cX7_node 5 = .ok (.invokevirtual 132, 3) := by decide +kernel
theorem dX7_node_8 : decode cX7_node 8 = .ok (.ifCond .ne 5, 3) := by decide +kernel
theorem dX7_node_11 : decode cX7_node 11 = .ok (.iconst (-1), 1) := by decide +kernel
theorem dX7_node_12 : decode cX7_node 12 = .ok (.ireturn, 1) := by decide +kernel
theorem dX7_node_13 : decode cX7_node 13 = .ok (.aload_n 0, 1) := by decide +kernel
theorem dX7_node_14 : decode cX7_node 14 = .ok (.getfield 28, 3) := by decide +kernel
theorem dX7_node_17 : decode cX7_node 17 = .ok (.iload_n 1, 1) := by decide +kernel
theorem dX7_node_18 : decode cX7_node 18 = .ok (.invokevirtual 135, 3) := by decide +kernel
theorem dX7_node_21 : decode cX7_node 21 = .ok (.istore_n 3, 1) := by decide +kernel
theorem dX7_node_22 : decode cX7_node 22 = .ok (.aload_n 0, 1) := by decide +kernel
theorem dX7_node_23 : decode cX7_node 23 = .ok (.getfield 37, 3) := by decide +kernel
theorem dX7_node_26 : decode cX7_node 26 = .ok (.iload_n 1, 1) := by decide +kernel
theorem dX7_node_27 : decode cX7_node 27 = .ok (.invokevirtual 138, 3) := by decide +kernel
theorem dX7_node_30 : decode cX7_node 30 = .ok (.lstore 4, 2) := by decide +kernel
theorem dX7_node_32 : decode cX7_node 32 = .ok (.iload_n 2, 1) := by decide +kernel
theorem dX7_node_33 : decode cX7_node 33 = .ok (.tableswitch 148 0 9 #[55, 66, 68, 74, 84, 95, 106, 117, 127, 137], 55) := by decide +kernel
theorem dX7_node_88 : decode cX7_node 88 = .ok (.aload_n 0, 1) := by decide +kernel
theorem dX7_node_89 : decode cX7_node 89 = .ok (.getfield 37, 3) := by decide +kernel
theorem dX7_node_92 : decode cX7_node 92 = .ok (.lload 4, 2) := by decide +kernel
theorem dX7_node_94 : decode cX7_node 94 = .ok (.iload_n 3, 1) := by decide +kernel
theorem dX7_node_95 : decode cX7_node 95 = .ok (.invokevirtual 142, 3) := by decide +kernel
theorem dX7_node_98 : decode cX7_node 98 = .ok (.ireturn, 1) := by decide +kernel
theorem dX7_node_99 : decode cX7_node 99 = .ok (.iload_n 3, 1) := by decide +kernel
theorem dX7_node_100 : decode cX7_node 100 = .ok (.ireturn, 1) := by decide +kernel
theorem dX7_node_101 : decode cX7_node 101 = .ok (.lload 4, 2) := by decide +kernel
theorem dX7_node_103 : decode cX7_node 103 = .ok (.invokestatic 146, 3) := by decide +kernel
theorem dX7_node_106 : decode cX7_node 106 = .ok (.ireturn, 1) := by decide +kernel
theorem dX7_node_107 : decode cX7_node 107 = .ok (.aload_n 0, 1) := by decide +kernel
theorem dX7_node_108 : decode cX7_node 108 = .ok (.getfield 28, 3) := by decide +kernel
theorem dX7_node_111 : decode cX7_node 111 = .ok (.lload 4, 2) := by decide +kernel
theorem dX7_node_113 : decode cX7_node 113 = .ok (.invokevirtual 126, 3) := by decide +kernel
theorem dX7_node_116 : decode cX7_node 116 = .ok (.ireturn, 1) := by decide +kernel
theorem dX7_node_117 : decode cX7_node 117 = .ok (.aload_n 0, 1) := by decide +kernel
theorem dX7_node_118 : decode cX7_node 118 = .ok (.getfield 37, 3) := by decide +kernel
theorem dX7_node_121 : decode cX7_node 121 = .ok (.lload 4, 2) := by decide +kernel
theorem dX7_node_123 : decode cX7_node 123 = .ok (.iload_n 3, 1) := by decide +kernel
theorem dX7_node_124 : decode cX7_node 124 = .ok (.invokevirtual 151, 3) := by decide +kernel
theorem dX7_node_127 : decode cX7_node 127 = .ok (.ireturn, 1) := by decide +kernel
theorem dX7_node_128 : decode cX7_node 128 = .ok (.aload_n 0, 1) := by decide +kernel
theorem dX7_node_129 : decode cX7_node 129 = .ok (.getfield 37, 3) := by decide +kernel
theorem dX7_node_132 : decode cX7_node 132 = .ok (.lload 4, 2) := by decide +kernel
theorem dX7_node_134 : decode cX7_node 134 = .ok (.iload_n 3, 1) := by decide +kernel
theorem dX7_node_135 : decode cX7_node 135 = .ok (.invokevirtual 154, 3) := by decide +kernel
theorem dX7_node_138 : decode cX7_node 138 = .ok (.ireturn, 1) := by decide +kernel
theorem dX7_node_139 : decode cX7_node 139 = .ok (.aload_n 0, 1) := by decide +kernel
theorem dX7_node_140 : decode cX7_node 140 = .ok (.getfield 37, 3) := by decide +kernel
theorem dX7_node_143 : decode cX7_node 143 = .ok (.lload 4, 2) := by decide +kernel
theorem dX7_node_145 : decode cX7_node 145 = .ok (.iload_n 3, 1) := by decide +kernel
theorem dX7_node_146 : decode cX7_node 146 = .ok (.invokevirtual 157, 3) := by decide +kernel
theorem dX7_node_149 : decode cX7_node 149 = .ok (.ireturn, 1) := by decide +kernel
theorem dX7_node_150 : decode cX7_node 150 = .ok (.aload_n 0, 1) := by decide +kernel
theorem dX7_node_151 : decode cX7_node 151 = .ok (.getfield 19, 3) := by decide +kernel
theorem dX7_node_154 : decode cX7_node 154 = .ok (.lload 4, 2) := by decide +kernel
theorem dX7_node_156 : decode cX7_node 156 = .ok (.invokevirtual 160, 3) := by decide +kernel
theorem dX7_node_159 : decode cX7_node 159 = .ok (.ireturn, 1) := by decide +kernel
theorem dX7_node_160 : decode cX7_node 160 = .ok (.aload_n 0, 1) := by decide +kernel
theorem dX7_node_161 : decode cX7_node 161 = .ok (.getfield 19, 3) := by decide +kernel
theorem dX7_node_164 : decode cX7_node 164 = .ok (.lload 4, 2) := by decide +kernel
theorem dX7_node_166 : decode cX7_node 166 = .ok (.invokevirtual 163, 3) := by decide +kernel
theorem dX7_node_169 : decode cX7_node 169 = .ok (.ireturn, 1) := by decide +kernel
theorem dX7_node_170 : decode cX7_node 170 = .ok (.aload_n 0, 1) := by decide +kernel
theorem dX7_node_171 : decode cX7_node 171 = .ok (.getfield 37, 3) := by decide +kernel
theorem dX7_node_174 : decode cX7_node 174 = .ok (.lload 4, 2) := by decide +kernel
theorem dX7_node_176 : decode cX7_node 176 = .ok (.iload_n 3, 1) := by decide +kernel
theorem dX7_node_177 : decode cX7_node 177 = .ok (.invokevirtual 166, 3) := by decide +kernel
theorem dX7_node_180 : decode cX7_node 180 = .ok (.ireturn, 1) := by decide +kernel
theorem dX7_node_181 : decode cX7_node 181 = .ok (.bipush (-2), 2) := by decide +kernel
theorem dX7_node_183 : decode cX7_node 183 = .ok (.ireturn, 1) := by decide +kernel
set_option maxRecDepth 20000 in
theorem ggX7_dots_X1_hasDot : GoodIn wsX7_dots wsX1_hasDot := goodIn_r _ [8, 9, 10, 11, 7, 12, 13, 14, 63, 64, 65, 66, 67, 68] (by decide +kernel) (by decide +kernel)
set_option maxRecDepth 20000 in
theorem gX7_dots_X1_hasDot : GoodIn wsX7_dots (wsV RX7 132 RX1 yX1_hasDot wsX1_hasDot) := goodIn_app (goodIn_of _ (by decide +kernel)) ggX7_dots_X1_hasDot
set_option maxRecDepth 20000 in
theorem ggX7_dots_X6_nodeOf : GoodIn wsX7_dots wsX6_nodeOf := goodIn_r _ [19, 20, 21, 22, 5, 6, 7, 8, 9, 10, 11, 12, 13, 14, 23, 24, 25, 26, 27, 28, 29, 30, 31, 18, 32, 33, 34, 35, 36, 37, 38, 39, 40, 41, 42, 43, 44, 45, 46, 47, 48, 49, 50, 51, 52, 69, 70, 71, 72, 73, 63, 64, 65, 66, 67, 68, 74, 75] (by decide +kernel) (by decide +kernel)
set_option maxRecDepth 20000 in
theorem gX7_dots_X6_nodeOf : GoodIn wsX7_dots (wsV RX7 138 RX6 yX6_nodeOf wsX6_nodeOf) := goodIn_app (goodIn_of _ (by decide +kernel)) ggX7_dots_X6_nodeOf
theorem dX7_dots_0 : decode cX7_dots 0 = .ok (.aload_n 0, 1) := by decide +kernel
theorem dX7_dots_1 : decode cX7_dots 1 = .ok (.getfield 19, 3) := by decide +kernel
theorem dX7_dots_4 : decode cX7_dots 4 = .ok (.iload_n 1, 1) := by decide +kernel
theorem dX7_dots_5 : decode cX7_dots 5 = .ok (.invokevirtual 132, 3) := by decide +kernel
theorem dX7_dots_8 : decode cX7_dots 8 = .ok (.ifCond .eq 14, 3) := by decide +kernel
theorem dX7_dots_11 : decode cX7_dots 11 = .ok (.aload_n 0, 1) := by decide +kernel
theorem dX7_dots_12 : decode cX7_dots 12 = .ok (.getfield 37, 3) := by decide +kernel
theorem dX7_dots_15 : decode cX7_dots 15 = .ok (.iload_n 1, 1) := by decide +kernel
theorem dX7_dots_16 : decode cX7_dots 16 = .ok (.invokevirtual 138, 3) := by decide +kernel
theorem dX7_dots_19 : decode cX7_dots 19 = .ok (.goto 6, 3) := by decide +kernel
theorem dX7_dots_22 : decode cX7_dots 22 = .ok (.ldc2_w 169, 3) := by decide +kernel
theorem dX7_dots_25 : decode cX7_dots 25 = .ok (.lreturn, 1) := by decide +kernel
set_option maxRecDepth 20000 in
theorem ggX7_parts_X7_isShade : GoodIn wsX7_parts wsX7_isShade := goodIn_r _ [6] (by decide +kernel) (by decide +kernel)
set_option maxRecDepth 20000 in
theorem gX7_parts_X7_isShade : GoodIn wsX7_parts (va_wsS RX7 171 yX7_isShade wsX7_isShade) := goodIn_app (goodIn_of _ (by decide +kernel)) ggX7_parts_X7_isShade
set_option maxRecDepth 20000 in
theorem ggX7_parts_X2_atLeast : GoodIn wsX7_parts wsX2_atLeast := goodIn_r _ [11, 12, 45, 46] (by decide +kernel) (by decide +kernel)
set_option maxRecDepth 20000 in
theorem gX7_parts_X2_atLeast : GoodIn wsX7_parts (wsV RX7 174 RX2 yX2_atLeast wsX2_atLeast) := goodIn_app (goodIn_of _ (by decide +kernel)) ggX7_parts_X2_atLeast
set_option maxRecDepth 20000 in
theorem ggX7_parts_X1_way : GoodIn wsX7_parts wsX1_way := goodIn_r _ [17, 18, 47, 48, 49, 50, 51, 52] (by decide +kernel) (by decide +kernel)
set_option maxRecDepth 20000 in
theorem gX7_parts_X1_way : GoodIn wsX7_parts (wsV RX7 107 RX1 yX1_way wsX1_way) := goodIn_app (goodIn_of _ (by decide +kernel)) ggX7_parts_X1_way
set_option maxRecDepth 20000 in
theorem ggX7_parts_X1_countParts : GoodIn wsX7_parts wsX1_countParts := goodIn_r _ [22, 23, 24, 25, 26, 16, 27, 28, 29, 30, 31, 32, 33, 34, 47, 48, 49, 50, 51, 52] (by decide +kernel) (by decide +kernel)
set_option maxRecDepth 20000 in
theorem gX7_parts_X1_countParts : GoodIn wsX7_parts (wsV RX7 177 RX1 yX1_countParts wsX1_countParts) := goodIn_app (goodIn_of _ (by decide +kernel)) ggX7_parts_X1_countParts
theorem dX7_parts_0 : decode cX7_parts 0 = .ok (.iload_n 1, 1) := by decide +kernel
theorem dX7_parts_1 : decode cX7_parts 1 = .ok (.invokestatic 171, 3) := by decide +kernel
theorem dX7_parts_4 : decode cX7_parts 4 = .ok (.ifCond .eq 28, 3) := by decide +kernel
theorem dX7_parts_7 : decode cX7_parts 7 = .ok (.aload_n 0, 1) := by decide +kernel
theorem dX7_parts_8 : decode cX7_parts 8 = .ok (.getfield 19, 3) := by decide +kernel
theorem dX7_parts_11 : decode cX7_parts 11 = .ok (.aload_n 0, 1) := by decide +kernel
theorem dX7_parts_12 : decode cX7_parts 12 = .ok (.getfield 28, 3) := by decide +kernel
theorem dX7_parts_15 : decode cX7_parts 15 = .ok (.iload_n 1, 1) := by decide +kernel
theorem dX7_parts_16 : decode cX7_parts 16 = .ok (.invokevirtual 174, 3) := by decide +kernel
theorem dX7_parts_19 : decode cX7_parts 19 = .ok (.aload_n 0, 1) := by decide +kernel
theorem dX7_parts_20 : decode cX7_parts 20 = .ok (.getfield 19, 3) := by decide +kernel
theorem dX7_parts_23 : decode cX7_parts 23 = .ok (.invokevirtual 107, 3) := by decide +kernel
theorem dX7_parts_26 : decode cX7_parts 26 = .ok (.invokevirtual 177, 3) := by decide +kernel
theorem dX7_parts_29 : decode cX7_parts 29 = .ok (.goto 5, 3) := by decide +kernel
theorem dX7_parts_32 : decode cX7_parts 32 = .ok (.bipush (-2), 2) := by decide +kernel
theorem dX7_parts_34 : decode cX7_parts 34 = .ok (.ireturn, 1) := by decide +kernel
set_option maxRecDepth 20000 in
theorem ggX7_paint_X1_hasDot : GoodIn wsX7_paint wsX1_hasDot := goodIn_r _ [8, 9, 10, 11, 7, 12, 13, 14, 56, 57, 58, 59, 60, 61] (by decide +kernel) (by decide +kernel)
set_option maxRecDepth 20000 in
theorem gX7_paint_X1_hasDot : GoodIn wsX7_paint (wsV RX7 132 RX1 yX1_hasDot wsX1_hasDot) := goodIn_app (goodIn_of _ (by decide +kernel)) ggX7_paint_X1_hasDot
set_option maxRecDepth 20000 in
theorem ggX7_paint_X7_isShade : GoodIn wsX7_paint wsX7_isShade := goodIn_r _ [18] (by decide +kernel) (by decide +kernel)
set_option maxRecDepth 20000 in
theorem gX7_paint_X7_isShade : GoodIn wsX7_paint (va_wsS RX7 171 yX7_isShade wsX7_isShade) := goodIn_app (goodIn_of _ (by decide +kernel)) ggX7_paint_X7_isShade
set_option maxRecDepth 20000 in
theorem ggX7_paint_X2_of : GoodIn wsX7_paint wsX2_of := goodIn_r _ [23, 24, 62, 63] (by decide +kernel) (by decide +kernel)
set_option maxRecDepth 20000 in
theorem gX7_paint_X2_of : GoodIn wsX7_paint (wsV RX7 135 RX2 yX2_of wsX2_of) := goodIn_app (goodIn_of _ (by decide +kernel)) ggX7_paint_X2_of
set_option maxRecDepth 20000 in
theorem ggX7_paint_X0_add : GoodIn wsX7_paint wsX0_add := goodIn_r _ [29, 30, 31, 32, 33, 34, 35, 36, 37, 38, 22, 39, 24, 40, 64, 65, 62, 63] (by decide +kernel) (by decide +kernel)
set_option maxRecDepth 20000 in
theorem gX7_paint_X0_add : GoodIn wsX7_paint (wsV RX7 180 RX0 yX0_add wsX0_add) := goodIn_app (goodIn_of _ (by decide +kernel)) ggX7_paint_X0_add
set_option maxRecDepth 20000 in
theorem ggX7_paint_X2_set : GoodIn wsX7_paint wsX2_set := goodIn_r _ [44, 24, 45, 62, 63] (by decide +kernel) (by decide +kernel)
set_option maxRecDepth 20000 in
theorem gX7_paint_X2_set : GoodIn wsX7_paint (wsV RX7 98 RX2 yX2_set wsX2_set) := goodIn_app (goodIn_of _ (by decide +kernel)) ggX7_paint_X2_set
theorem dX7_paint_0 : decode cX7_paint 0 = .ok (.aload_n 0, 1) := by decide +kernel
theorem dX7_paint_1 : decode cX7_paint 1 = .ok (.getfield 19, 3) := by decide +kernel
theorem dX7_paint_4 : decode cX7_paint 4 = .ok (.iload_n 1, 1) := by decide +kernel
theorem dX7_paint_5 : decode cX7_paint 5 = .ok (.invokevirtual 132, 3) := by decide +kernel
theorem dX7_paint_8 : decode cX7_paint 8 = .ok (.ifCond .ne 5, 3) := by decide +kernel
theorem dX7_paint_11 : decode cX7_paint 11 = .ok (.iconst (-1), 1) := by decide +kernel
theorem dX7_paint_12 : decode cX7_paint 12 = .ok (.ireturn, 1) := by decide +kernel
theorem dX7_paint_13 : decode cX7_paint 13 = .ok (.iload_n 2, 1) := by decide +kernel
theorem dX7_paint_14 : decode cX7_paint 14 = .ok (.invokestatic 171, 3) := by decide +kernel
theorem dX7_paint_17 : decode cX7_paint 17 = .ok (.ifCond .ne 6, 3) := by decide +kernel
theorem dX7_paint_20 : decode cX7_paint 20 = .ok (.bipush (-2), 2) := by decide +kernel
theorem dX7_paint_22 : decode cX7_paint 22 = .ok (.ireturn, 1) := by decide +kernel
theorem dX7_paint_23 : decode cX7_paint 23 = .ok (.aload_n 0, 1) := by decide +kernel
theorem dX7_paint_24 : decode cX7_paint 24 = .ok (.getfield 28, 3) := by decide +kernel
theorem dX7_paint_27 : decode cX7_paint 27 = .ok (.iload_n 1, 1) := by decide +kernel
theorem dX7_paint_28 : decode cX7_paint 28 = .ok (.invokevirtual 135, 3) := by decide +kernel
theorem dX7_paint_31 : decode cX7_paint 31 = .ok (.istore_n 3, 1) := by decide +kernel
theorem dX7_paint_32 : decode cX7_paint 32 = .ok (.aload_n 0, 1) := by decide +kernel
theorem dX7_paint_33 : decode cX7_paint 33 = .ok (.getfield 50, 3) := by decide +kernel
theorem dX7_paint_36 : decode cX7_paint 36 = .ok (.aload_n 0, 1) := by decide +kernel
theorem dX7_paint_37 : decode cX7_paint 37 = .ok (.getfield 28, 3) := by decide +kernel
theorem dX7_paint_40 : decode cX7_paint 40 = .ok (.invokevirtual 180, 3) := by decide +kernel
theorem dX7_paint_43 : decode cX7_paint 43 = .ok (.aload_n 0, 1) := by decide +kernel
theorem dX7_paint_44 : decode cX7_paint 44 = .ok (.getfield 28, 3) := by decide +kernel
theorem dX7_paint_47 : decode cX7_paint 47 = .ok (.iload_n 1, 1) := by decide +kernel
theorem dX7_paint_48 : decode cX7_paint 48 = .ok (.iload_n 2, 1) := by decide +kernel
theorem dX7_paint_49 : decode cX7_paint 49 = .ok (.invokevirtual 98, 3) := by decide +kernel
theorem dX7_paint_52 : decode cX7_paint 52 = .ok (.iload_n 3, 1) := by decide +kernel
theorem dX7_paint_53 : decode cX7_paint 53 = .ok (.ireturn, 1) := by decide +kernel
set_option maxRecDepth 20000 in
theorem ggX7_negative_X0_add : GoodIn wsX7_negative wsX0_add := goodIn_r _ [8, 9, 10, 11, 12, 13, 14, 15, 16, 17, 18, 19, 20, 21, 93, 94, 95, 96] (by decide +kernel) (by decide +kernel)
set_option maxRecDepth 20000 in
theorem gX7_negative_X0_add : GoodIn wsX7_negative (wsV RX7 180 RX0 yX0_add wsX0_add) := goodIn_app (goodIn_of _ (by decide +kernel)) ggX7_negative_X0_add
set_option maxRecDepth 20000 in
theorem ggX7_negative_X2_turn : GoodIn wsX7_negative wsX2_turn := goodIn_r _ [25, 26, 27, 28, 29, 30, 31, 32, 33, 34, 35, 36, 18, 37, 20, 38, 39, 40, 41, 95, 96, 97, 98, 99, 100, 101, 102] (by decide +kernel) (by decide +kernel)
set_option maxRecDepth 20000 in
theorem gX7_negative_X2_turn : GoodIn wsX7_negative (wsV RX7 183 RX2 yX2_turn wsX2_turn) := goodIn_app (goodIn_of _ (by decide +kernel)) ggX7_negative_X2_turn
set_option maxRecDepth 20000 in
theorem ggX7_negative_X6_countNodes : GoodIn wsX7_negative wsX6_countNodes := goodIn_r _ [46, 47, 48, 49, 50, 45, 51, 52, 53, 54, 55, 56, 57, 58, 59, 60, 35, 36, 18, 37, 20, 61, 62, 63, 64, 65, 66, 67, 68, 31, 69, 70, 71, 72, 73, 74, 75, 76, 77, 78, 79, 80, 81, 82, 103, 104, 105, 106, 107, 95, 96, 97, 98, 99, 100, 101, 102] (by decide +kernel) (by decide +kernel)
set_option maxRecDepth 20000 in
theorem gX7_negative_X6_countNodes : GoodIn wsX7_negative (wsV RX7 104 RX6 yX6_countNodes wsX6_countNodes) := goodIn_app (goodIn_of _ (by decide +kernel)) ggX7_negative_X6_countNodes
theorem dX7_negative_0 : decode cX7_negative 0 = .ok (.aload_n 0, 1) := by decide +kernel
theorem dX7_negative_1 : decode cX7_negative 1 = .ok (.getfield 50, 3) := by decide +kernel
theorem dX7_negative_4 : decode cX7_negative 4 = .ok (.aload_n 0, 1) := by decide +kernel
theorem dX7_negative_5 : decode cX7_negative 5 = .ok (.getfield 28, 3) := by decide +kernel
theorem dX7_negative_8 : decode cX7_negative 8 = .ok (.invokevirtual 180, 3) := by decide +kernel
theorem dX7_negative_11 : decode cX7_negative 11 = .ok (.aload_n 0, 1) := by decide +kernel
theorem dX7_negative_12 : decode cX7_negative 12 = .ok (.getfield 28, 3) := by decide +kernel
theorem dX7_negative_15 : decode cX7_negative 15 = .ok (.invokevirtual 183, 3) := by decide +kernel
theorem dX7_negative_18 : decode cX7_negative 18 = .ok (.aload_n 0, 1) := by decide +kernel
theorem dX7_negative_19 : decode cX7_negative 19 = .ok (.getfield 37, 3) := by decide +kernel
theorem dX7_negative_22 : decode cX7_negative 22 = .ok (.invokevirtual 104, 3) := by decide +kernel
theorem dX7_negative_25 : decode cX7_negative 25 = .ok (.ireturn, 1) := by decide +kernel
set_option maxRecDepth 20000 in
theorem ggX7_sift_X7_isSieve : GoodIn wsX7_sift wsX7_isSieve := goodIn_r _ [6] (by decide +kernel) (by decide +kernel)
set_option maxRecDepth 20000 in
theorem gX7_sift_X7_isSieve : GoodIn wsX7_sift (va_wsS RX7 186 yX7_isSieve wsX7_isSieve) := goodIn_app (goodIn_of _ (by decide +kernel)) ggX7_sift_X7_isSieve
set_option maxRecDepth 20000 in
theorem ggX7_sift_X0_add : GoodIn wsX7_sift wsX0_add := goodIn_r _ [11, 12, 13, 14, 15, 16, 17, 18, 19, 20, 21, 22, 23, 24, 92, 93, 94, 95] (by decide +kernel) (by decide +kernel)
set_option maxRecDepth 20000 in
theorem gX7_sift_X0_add : GoodIn wsX7_sift (wsV RX7 180 RX0 yX0_add wsX0_add) := goodIn_app (goodIn_of _ (by decide +kernel)) ggX7_sift_X0_add
set_option maxRecDepth 20000 in
theorem ggX7_sift_X2_thin : GoodIn wsX7_sift wsX2_thin := goodIn_r _ [28, 23, 29, 30, 31, 32, 21, 33, 34, 35, 36, 37, 38, 39, 40, 41, 42, 43, 44, 45, 46, 47, 48, 49, 50, 51, 52, 53, 54, 55, 56, 57, 58, 59, 60, 61, 62, 63, 64, 65, 66, 67, 68, 69, 70, 71, 72, 73, 74, 75, 76, 77, 78, 79, 80, 81, 94, 95, 96, 97, 98, 99, 100, 101] (by decide +kernel) (by decide +kernel)
set_option maxRecDepth 20000 in
theorem gX7_sift_X2_thin : GoodIn wsX7_sift (wsV RX7 190 RX2 yX2_thin wsX2_thin) := goodIn_app (goodIn_of _ (by decide +kernel)) ggX7_sift_X2_thin
theorem dX7_sift_0 : decode cX7_sift 0 = .ok (.iload_n 1, 1) := by decide +kernel
theorem dX7_sift_1 : decode cX7_sift 1 = .ok (.iload_n 2, 1) := by decide +kernel
theorem dX7_sift_2 : decode cX7_sift 2 = .ok (.invokestatic 186, 3) := by decide +kernel
theorem dX7_sift_5 : decode cX7_sift 5 = .ok (.ifCond .ne 6, 3) := by decide +kernel
theorem dX7_sift_8 : decode cX7_sift 8 = .ok (.bipush (-2), 2) := by decide +kernel
theorem dX7_sift_10 : decode cX7_sift 10 = .ok (.ireturn, 1) := by decide +kernel
theorem dX7_sift_11 : decode cX7_sift 11 = .ok (.aload_n 0, 1) := by decide +kernel
theorem dX7_sift_12 : decode cX7_sift 12 = .ok (.getfield 50, 3) := by decide +kernel
theorem dX7_sift_15 : decode cX7_sift 15 = .ok (.aload_n 0, 1) := by decide +kernel
theorem dX7_sift_16 : decode cX7_sift 16 = .ok (.getfield 28, 3) := by decide +kernel
theorem dX7_sift_19 : decode cX7_sift 19 = .ok (.invokevirtual 180, 3) := by decide +kernel
theorem dX7_sift_22 : decode cX7_sift 22 = .ok (.aload_n 0, 1) := by decide +kernel
theorem dX7_sift_23 : decode cX7_sift 23 = .ok (.getfield 28, 3) := by decide +kernel
theorem dX7_sift_26 : decode cX7_sift 26 = .ok (.iload_n 1, 1) := by decide +kernel
theorem dX7_sift_27 : decode cX7_sift 27 = .ok (.iload_n 2, 1) := by decide +kernel
theorem dX7_sift_28 : decode cX7_sift 28 = .ok (.invokevirtual 190, 3) := by decide +kernel
theorem dX7_sift_31 : decode cX7_sift 31 = .ok (.ireturn, 1) := by decide +kernel
set_option maxRecDepth 20000 in
theorem ggX7_undo_X0_takeBack : GoodIn wsX7_undo wsX0_takeBack := goodIn_r _ [7, 8, 9, 10, 11, 12, 13, 14, 15, 16, 17, 18, 19, 34, 35, 36, 37] (by decide +kernel) (by decide +kernel)
set_option maxRecDepth 20000 in
theorem gX7_undo_X0_takeBack : GoodIn wsX7_undo (wsV RX7 194 RX0 yX0_takeBack wsX0_takeBack) := goodIn_app (goodIn_of _ (by decide +kernel)) ggX7_undo_X0_takeBack
set_option maxRecDepth 20000 in
theorem ggX7_undo_X0_size : GoodIn wsX7_undo wsX0_size := goodIn_r _ [23, 8, 34, 35] (by decide +kernel) (by decide +kernel)
set_option maxRecDepth 20000 in
theorem gX7_undo_X0_size : GoodIn wsX7_undo (wsV RX7 130 RX0 yX0_size wsX0_size) := goodIn_app (goodIn_of _ (by decide +kernel)) ggX7_undo_X0_size
theorem dX7_undo_0 : decode cX7_undo 0 = .ok (.aload_n 0, 1) := by decide +kernel
theorem dX7_undo_1 : decode cX7_undo 1 = .ok (.getfield 50, 3) := by decide +kernel
theorem dX7_undo_4 : decode cX7_undo 4 = .ok (.aload_n 0, 1) := by decide +kernel
theorem dX7_undo_5 : decode cX7_undo 5 = .ok (.getfield 28, 3) := by decide +kernel
theorem dX7_undo_8 : decode cX7_undo 8 = .ok (.invokevirtual 194, 3) := by decide +kernel
theorem dX7_undo_11 : decode cX7_undo 11 = .ok (.ifCond .eq 13, 3) := by decide +kernel
theorem dX7_undo_14 : decode cX7_undo 14 = .ok (.aload_n 0, 1) := by decide +kernel
theorem dX7_undo_15 : decode cX7_undo 15 = .ok (.getfield 50, 3) := by decide +kernel
theorem dX7_undo_18 : decode cX7_undo 18 = .ok (.invokevirtual 130, 3) := by decide +kernel
theorem dX7_undo_21 : decode cX7_undo 21 = .ok (.goto 5, 3) := by decide +kernel
theorem dX7_undo_24 : decode cX7_undo 24 = .ok (.bipush (-3), 2) := by decide +kernel
theorem dX7_undo_26 : decode cX7_undo 26 = .ok (.ireturn, 1) := by decide +kernel
set_option maxRecDepth 20000 in
theorem ggX7_pass_X1_hasDot : GoodIn wsX7_pass wsX1_hasDot := goodIn_r _ [7, 8, 9, 10, 6, 11, 12, 13, 51, 52, 53, 54, 55, 56] (by decide +kernel) (by decide +kernel)
set_option maxRecDepth 20000 in
theorem gX7_pass_X1_hasDot : GoodIn wsX7_pass (wsV RX7 132 RX1 yX1_hasDot wsX1_hasDot) := goodIn_app (goodIn_of _ (by decide +kernel)) ggX7_pass_X1_hasDot
set_option maxRecDepth 20000 in
theorem ggX7_pass_X2_atLeast : GoodIn wsX7_pass wsX2_atLeast := goodIn_r _ [18, 19, 57, 58] (by decide +kernel) (by decide +kernel)
set_option maxRecDepth 20000 in
theorem gX7_pass_X2_atLeast : GoodIn wsX7_pass (wsV RX7 174 RX2 yX2_atLeast wsX2_atLeast) := goodIn_app (goodIn_of _ (by decide +kernel)) ggX7_pass_X2_atLeast
set_option maxRecDepth 20000 in
theorem ggX7_pass_X1_way : GoodIn wsX7_pass wsX1_way := goodIn_r _ [23, 24, 51, 52, 53, 54, 55, 56] (by decide +kernel) (by decide +kernel)
set_option maxRecDepth 20000 in
theorem gX7_pass_X1_way : GoodIn wsX7_pass (wsV RX7 107 RX1 yX1_way wsX1_way) := goodIn_app (goodIn_of _ (by decide +kernel)) ggX7_pass_X1_way
set_option maxRecDepth 20000 in
theorem ggX7_pass_X1_joined : GoodIn wsX7_pass wsX1_joined := goodIn_r _ [28, 29, 4, 5, 6, 7, 8, 9, 10, 11, 12, 13, 30, 31, 32, 33, 34, 35, 36, 37, 38, 39, 40, 51, 52, 53, 54, 55, 56] (by decide +kernel) (by decide +kernel)
set_option maxRecDepth 20000 in
theorem gX7_pass_X1_joined : GoodIn wsX7_pass (wsV RX7 198 RX1 yX1_joined wsX1_joined) := goodIn_app (goodIn_of _ (by decide +kernel)) ggX7_pass_X1_joined
theorem dX7_pass_0 : decode cX7_pass 0 = .ok (.aload_n 0, 1) := by decide +kernel
theorem dX7_pass_1 : decode cX7_pass 1 = .ok (.getfield 19, 3) := by decide +kernel
theorem dX7_pass_4 : decode cX7_pass 4 = .ok (.iload_n 1, 1) := by decide +kernel
theorem dX7_pass_5 : decode cX7_pass 5 = .ok (.invokevirtual 132, 3) := by decide +kernel
theorem dX7_pass_8 : decode cX7_pass 8 = .ok (.ifCond .eq 14, 3) := by decide +kernel
theorem dX7_pass_11 : decode cX7_pass 11 = .ok (.aload_n 0, 1) := by decide +kernel
theorem dX7_pass_12 : decode cX7_pass 12 = .ok (.getfield 19, 3) := by decide +kernel
theorem dX7_pass_15 : decode cX7_pass 15 = .ok (.iload_n 2, 1) := by decide +kernel
theorem dX7_pass_16 : decode cX7_pass 16 = .ok (.invokevirtual 132, 3) := by decide +kernel
theorem dX7_pass_19 : decode cX7_pass 19 = .ok (.ifCond .ne 5, 3) := by decide +kernel
theorem dX7_pass_22 : decode cX7_pass 22 = .ok (.iconst (-1), 1) := by decide +kernel
theorem dX7_pass_23 : decode cX7_pass 23 = .ok (.ireturn, 1) := by decide +kernel
theorem dX7_pass_24 : decode cX7_pass 24 = .ok (.bipush 9, 2) := by decide +kernel
theorem dX7_pass_26 : decode cX7_pass 26 = .ok (.istore_n 3, 1) := by decide +kernel
theorem dX7_pass_27 : decode cX7_pass 27 = .ok (.iload_n 3, 1) := by decide +kernel
theorem dX7_pass_28 : decode cX7_pass 28 = .ok (.ifCond .le 38, 3) := by decide +kernel
theorem dX7_pass_31 : decode cX7_pass 31 = .ok (.aload_n 0, 1) := by decide +kernel
theorem dX7_pass_32 : decode cX7_pass 32 = .ok (.getfield 19, 3) := by decide +kernel
theorem dX7_pass_35 : decode cX7_pass 35 = .ok (.aload_n 0, 1) := by decide +kernel
theorem dX7_pass_36 : decode cX7_pass 36 = .ok (.getfield 28, 3) := by decide +kernel
theorem dX7_pass_39 : decode cX7_pass 39 = .ok (.iload_n 3, 1) := by decide +kernel
theorem dX7_pass_40 : decode cX7_pass 40 = .ok (.invokevirtual 174, 3) := by decide +kernel
theorem dX7_pass_43 : decode cX7_pass 43 = .ok (.iload_n 1, 1) := by decide +kernel
theorem dX7_pass_44 : decode cX7_pass 44 = .ok (.iload_n 2, 1) := by decide +kernel
theorem dX7_pass_45 : decode cX7_pass 45 = .ok (.aload_n 0, 1) := by decide +kernel
theorem dX7_pass_46 : decode cX7_pass 46 = .ok (.getfield 19, 3) := by decide +kernel
theorem dX7_pass_49 : decode cX7_pass 49 = .ok (.invokevirtual 107, 3) := by decide +kernel
theorem dX7_pass_52 : decode cX7_pass 52 = .ok (.invokevirtual 198, 3) := by decide +kernel
theorem dX7_pass_55 : decode cX7_pass 55 = .ok (.ifCond .eq 5, 3) := by decide +kernel
theorem dX7_pass_58 : decode cX7_pass 58 = .ok (.iload_n 3, 1) := by decide +kernel
theorem dX7_pass_59 : decode cX7_pass 59 = .ok (.ireturn, 1) := by decide +kernel
theorem dX7_pass_60 : decode cX7_pass 60 = .ok (.iinc 3 (-1), 3) := by decide +kernel
theorem dX7_pass_63 : decode cX7_pass 63 = .ok (.goto (-36), 3) := by decide +kernel
theorem dX7_pass_66 : decode cX7_pass 66 = .ok (.iconst 0, 1) := by decide +kernel
theorem dX7_pass_67 : decode cX7_pass 67 = .ok (.ireturn, 1) := by decide +kernel
set_option maxRecDepth 20000 in
theorem ggX7_grows_X1_hasDot : GoodIn wsX7_grows wsX1_hasDot := goodIn_r _ [8, 9, 10, 11, 7, 12, 13, 14, 94, 95, 96, 97, 98, 99] (by decide +kernel) (by decide +kernel)
set_option maxRecDepth 20000 in
theorem gX7_grows_X1_hasDot : GoodIn wsX7_grows (wsV RX7 132 RX1 yX1_hasDot wsX1_hasDot) := goodIn_app (goodIn_of _ (by decide +kernel)) ggX7_grows_X1_hasDot
set_option maxRecDepth 20000 in
theorem ggX7_grows_X7_isStep : GoodIn wsX7_grows wsX7_isStep := goodIn_r _ [18] (by decide +kernel) (by decide +kernel)
set_option maxRecDepth 20000 in
theorem gX7_grows_X7_isStep : GoodIn wsX7_grows (va_wsS RX7 202 yX7_isStep wsX7_isStep) := goodIn_app (goodIn_of _ (by decide +kernel)) ggX7_grows_X7_isStep
set_option maxRecDepth 20000 in
theorem ggX7_grows_X6_nodeOf : GoodIn wsX7_grows wsX6_nodeOf := goodIn_r _ [23, 24, 25, 26, 5, 6, 7, 8, 9, 10, 11, 12, 13, 14, 27, 28, 29, 30, 31, 32, 33, 34, 35, 22, 36, 37, 38, 39, 40, 41, 42, 43, 44, 45, 46, 47, 48, 49, 50, 51, 52, 53, 54, 55, 56, 100, 101, 102, 103, 104, 94, 95, 96, 97, 98, 99, 105, 106] (by decide +kernel) (by decide +kernel)
set_option maxRecDepth 20000 in
theorem gX7_grows_X6_nodeOf : GoodIn wsX7_grows (wsV RX7 138 RX6 yX6_nodeOf wsX6_nodeOf) := goodIn_app (goodIn_of _ (by decide +kernel)) ggX7_grows_X6_nodeOf
set_option maxRecDepth 20000 in
theorem ggX7_grows_X2_of : GoodIn wsX7_grows wsX2_of := goodIn_r _ [31, 32, 105, 106] (by decide +kernel) (by decide +kernel)
set_option maxRecDepth 20000 in
theorem gX7_grows_X2_of : GoodIn wsX7_grows (wsV RX7 135 RX2 yX2_of wsX2_of) := goodIn_app (goodIn_of _ (by decide +kernel)) ggX7_grows_X2_of
set_option maxRecDepth 20000 in
theorem ggX7_grows_X6_gain : GoodIn wsX7_grows wsX6_gain := goodIn_r _ [61, 62, 63, 64, 65, 66, 33, 34, 35, 22, 36, 24, 25, 37, 38, 39, 30, 40, 32, 41, 42, 43, 7, 44, 45, 46, 47, 48, 49, 50, 51, 52, 53, 54, 55, 56, 13, 67, 68, 69, 70, 71, 72, 73, 100, 101, 102, 103, 104, 105, 106, 94, 95, 96, 97, 98, 99] (by decide +kernel) (by decide +kernel)
set_option maxRecDepth 20000 in
theorem gX7_grows_X6_gain : GoodIn wsX7_grows (wsV RX7 205 RX6 yX6_gain wsX6_gain) := goodIn_app (goodIn_of _ (by decide +kernel)) ggX7_grows_X6_gain
set_option maxRecDepth 20000 in
theorem ggX7_grows_J13_bitCount_95d88 : GoodIn wsX7_grows wsJ13_bitCount_95d88 := goodIn_r _ [70, 71, 72, 73] (by decide +kernel) (by decide +kernel)
set_option maxRecDepth 20000 in
theorem gX7_grows_J13_bitCount_95d88 : GoodIn wsX7_grows (va_wsS RX7 146 yJ13_bitCount_95d88 wsJ13_bitCount_95d88) := goodIn_app (goodIn_of _ (by decide +kernel)) ggX7_grows_J13_bitCount_95d88
set_option maxRecDepth 20000 in
theorem ggX7_grows_X7_fraction : GoodIn wsX7_grows wsX7_fraction := goodIn_r _ [77, 78, 79, 64, 80, 81, 82, 17, 83] (by decide +kernel) (by decide +kernel)
set_option maxRecDepth 20000 in
theorem gX7_grows_X7_fraction : GoodIn wsX7_grows (va_wsS RX7 209 yX7_fraction wsX7_fraction) := goodIn_app (goodIn_of _ (by decide +kernel)) ggX7_grows_X7_fraction
theorem dX7_grows_0 : decode cX7_grows 0 = .ok (.aload_n 0, 1) := by decide +kernel
theorem dX7_grows_1 : decode cX7_grows 1 = .ok (.getfield 19, 3) := by decide +kernel
theorem dX7_grows_4 : decode cX7_grows 4 = .ok (.iload_n 1, 1) := by decide +kernel
theorem dX7_grows_5 : decode cX7_grows 5 = .ok (.invokevirtual 132, 3) := by decide +kernel
theorem dX7_grows_8 : decode cX7_grows 8 = .ok (.ifCond .ne 5, 3) := by decide +kernel
theorem dX7_grows_11 : decode cX7_grows 11 = .ok (.iconst (-1), 1) := by decide +kernel
theorem dX7_grows_12 : decode cX7_grows 12 = .ok (.ireturn, 1) := by decide +kernel
theorem dX7_grows_13 : decode cX7_grows 13 = .ok (.iload_n 2, 1) := by decide +kernel
theorem dX7_grows_14 : decode cX7_grows 14 = .ok (.invokestatic 202, 3) := by decide +kernel
theorem dX7_grows_17 : decode cX7_grows 17 = .ok (.ifCond .ne 6, 3) := by decide +kernel
theorem dX7_grows_20 : decode cX7_grows 20 = .ok (.bipush (-2), 2) := by decide +kernel
theorem dX7_grows_22 : decode cX7_grows 22 = .ok (.ireturn, 1) := by decide +kernel
theorem dX7_grows_23 : decode cX7_grows 23 = .ok (.aload_n 0, 1) := by decide +kernel
theorem dX7_grows_24 : decode cX7_grows 24 = .ok (.getfield 37, 3) := by decide +kernel
theorem dX7_grows_27 : decode cX7_grows 27 = .ok (.iload_n 1, 1) := by decide +kernel
theorem dX7_grows_28 : decode cX7_grows 28 = .ok (.invokevirtual 138, 3) := by decide +kernel
theorem dX7_grows_31 : decode cX7_grows 31 = .ok (.lstore 4, 2) := by decide +kernel
theorem dX7_grows_33 : decode cX7_grows 33 = .ok (.aload_n 0, 1) := by decide +kernel
theorem dX7_grows_34 : decode cX7_grows 34 = .ok (.getfield 37, 3) := by decide +kernel
theorem dX7_grows_37 : decode cX7_grows 37 = .ok (.lload 4, 2) := by decide +kernel
theorem dX7_grows_39 : decode cX7_grows 39 = .ok (.aload_n 0, 1) := by decide +kernel
theorem dX7_grows_40 : decode cX7_grows 40 = .ok (.getfield 28, 3) := by decide +kernel
theorem dX7_grows_43 : decode cX7_grows 43 = .ok (.iload_n 1, 1) := by decide +kernel
theorem dX7_grows_44 : decode cX7_grows 44 = .ok (.invokevirtual 135, 3) := by decide +kernel
theorem dX7_grows_47 : decode cX7_grows 47 = .ok (.iload_n 2, 1) := by decide +kernel
theorem dX7_grows_48 : decode cX7_grows 48 = .ok (.invokevirtual 205, 3) := by decide +kernel
theorem dX7_grows_51 : decode cX7_grows 51 = .ok (.lload 4, 2) := by decide +kernel
theorem dX7_grows_53 : decode cX7_grows 53 = .ok (.invokestatic 146, 3) := by decide +kernel
theorem dX7_grows_56 : decode cX7_grows 56 = .ok (.iload_n 3, 1) := by decide +kernel
theorem dX7_grows_57 : decode cX7_grows 57 = .ok (.invokestatic 209, 3) := by decide +kernel
theorem dX7_grows_60 : decode cX7_grows 60 = .ok (.ireturn, 1) := by decide +kernel
set_option maxRecDepth 20000 in
theorem ggX7_steady_X1_hasDot : GoodIn wsX7_steady wsX1_hasDot := goodIn_r _ [8, 9, 10, 11, 7, 12, 13, 14, 96, 97, 98, 99, 100, 101] (by decide +kernel) (by decide +kernel)
set_option maxRecDepth 20000 in
theorem gX7_steady_X1_hasDot : GoodIn wsX7_steady (wsV RX7 132 RX1 yX1_hasDot wsX1_hasDot) := goodIn_app (goodIn_of _ (by decide +kernel)) ggX7_steady_X1_hasDot
set_option maxRecDepth 20000 in
theorem ggX7_steady_X7_isStep : GoodIn wsX7_steady wsX7_isStep := goodIn_r _ [18] (by decide +kernel) (by decide +kernel)
set_option maxRecDepth 20000 in
theorem gX7_steady_X7_isStep : GoodIn wsX7_steady (va_wsS RX7 202 yX7_isStep wsX7_isStep) := goodIn_app (goodIn_of _ (by decide +kernel)) ggX7_steady_X7_isStep
set_option maxRecDepth 20000 in
theorem ggX7_steady_X6_nodeOf : GoodIn wsX7_steady wsX6_nodeOf := goodIn_r _ [23, 24, 25, 26, 5, 6, 7, 8, 9, 10, 11, 12, 13, 14, 27, 28, 29, 30, 31, 32, 33, 34, 35, 22, 36, 37, 38, 39, 40, 41, 42, 43, 44, 45, 46, 47, 48, 49, 50, 51, 52, 53, 54, 55, 56, 102, 103, 104, 105, 106, 96, 97, 98, 99, 100, 101, 107, 108] (by decide +kernel) (by decide +kernel)
set_option maxRecDepth 20000 in
theorem gX7_steady_X6_nodeOf : GoodIn wsX7_steady (wsV RX7 138 RX6 yX6_nodeOf wsX6_nodeOf) := goodIn_app (goodIn_of _ (by decide +kernel)) ggX7_steady_X6_nodeOf
set_option maxRecDepth 20000 in
theorem ggX7_steady_X2_of : GoodIn wsX7_steady wsX2_of := goodIn_r _ [31, 32, 107, 108] (by decide +kernel) (by decide +kernel)
set_option maxRecDepth 20000 in
theorem gX7_steady_X2_of : GoodIn wsX7_steady (wsV RX7 135 RX2 yX2_of wsX2_of) := goodIn_app (goodIn_of _ (by decide +kernel)) ggX7_steady_X2_of
set_option maxRecDepth 20000 in
theorem ggX7_steady_X6_isSteady : GoodIn wsX7_steady wsX6_isSteady := goodIn_r _ [61, 25, 62, 63, 64, 65, 22, 66, 67, 68, 69, 70, 33, 34, 35, 36, 24, 37, 38, 39, 30, 40, 32, 41, 42, 43, 7, 44, 45, 46, 47, 48, 49, 50, 51, 52, 53, 54, 55, 56, 13, 71, 72, 73, 74, 75, 76, 77, 78, 79, 80, 81, 82, 83, 84, 85, 102, 103, 104, 105, 106, 107, 108, 96, 97, 98, 99, 100, 101] (by decide +kernel) (by decide +kernel)
set_option maxRecDepth 20000 in
theorem gX7_steady_X6_isSteady : GoodIn wsX7_steady (wsV RX7 213 RX6 yX6_isSteady wsX6_isSteady) := goodIn_app (goodIn_of _ (by decide +kernel)) ggX7_steady_X6_isSteady
theorem dX7_steady_0 : decode cX7_steady 0 = .ok (.aload_n 0, 1) := by decide +kernel
theorem dX7_steady_1 : decode cX7_steady 1 = .ok (.getfield 19, 3) := by decide +kernel
theorem dX7_steady_4 : decode cX7_steady 4 = .ok (.iload_n 1, 1) := by decide +kernel
theorem dX7_steady_5 : decode cX7_steady 5 = .ok (.invokevirtual 132, 3) := by decide +kernel
theorem dX7_steady_8 : decode cX7_steady 8 = .ok (.ifCond .ne 5, 3) := by decide +kernel
theorem dX7_steady_11 : decode cX7_steady 11 = .ok (.iconst (-1), 1) := by decide +kernel
theorem dX7_steady_12 : decode cX7_steady 12 = .ok (.ireturn, 1) := by decide +kernel
theorem dX7_steady_13 : decode cX7_steady 13 = .ok (.iload_n 2, 1) := by decide +kernel
theorem dX7_steady_14 : decode cX7_steady 14 = .ok (.invokestatic 202, 3) := by decide +kernel
theorem dX7_steady_17 : decode cX7_steady 17 = .ok (.ifCond .ne 6, 3) := by decide +kernel
theorem dX7_steady_20 : decode cX7_steady 20 = .ok (.bipush (-2), 2) := by decide +kernel
theorem dX7_steady_22 : decode cX7_steady 22 = .ok (.ireturn, 1) := by decide +kernel
theorem dX7_steady_23 : decode cX7_steady 23 = .ok (.aload_n 0, 1) := by decide +kernel
theorem dX7_steady_24 : decode cX7_steady 24 = .ok (.getfield 37, 3) := by decide +kernel
theorem dX7_steady_27 : decode cX7_steady 27 = .ok (.aload_n 0, 1) := by decide +kernel
theorem dX7_steady_28 : decode cX7_steady 28 = .ok (.getfield 37, 3) := by decide +kernel
theorem dX7_steady_31 : decode cX7_steady 31 = .ok (.iload_n 1, 1) := by decide +kernel
theorem dX7_steady_32 : decode cX7_steady 32 = .ok (.invokevirtual 138, 3) := by decide +kernel
theorem dX7_steady_35 : decode cX7_steady 35 = .ok (.aload_n 0, 1) := by decide +kernel
theorem dX7_steady_36 : decode cX7_steady 36 = .ok (.getfield 28, 3) := by decide +kernel
theorem dX7_steady_39 : decode cX7_steady 39 = .ok (.iload_n 1, 1) := by decide +kernel
theorem dX7_steady_40 : decode cX7_steady 40 = .ok (.invokevirtual 135, 3) := by decide +kernel
theorem dX7_steady_43 : decode cX7_steady 43 = .ok (.iload_n 2, 1) := by decide +kernel
theorem dX7_steady_44 : decode cX7_steady 44 = .ok (.invokevirtual 213, 3) := by decide +kernel
theorem dX7_steady_47 : decode cX7_steady 47 = .ok (.ifCond .eq 7, 3) := by decide +kernel
theorem dX7_steady_50 : decode cX7_steady 50 = .ok (.iconst 1, 1) := by decide +kernel
theorem dX7_steady_51 : decode cX7_steady 51 = .ok (.goto 4, 3) := by decide +kernel
theorem dX7_steady_54 : decode cX7_steady 54 = .ok (.iconst 0, 1) := by decide +kernel
theorem dX7_steady_55 : decode cX7_steady 55 = .ok (.ireturn, 1) := by decide +kernel
set_option maxRecDepth 20000 in
theorem ggX7_judge_X7_withoutLast : GoodIn wsX7_judge wsX7_withoutLast := goodIn_r _ [7, 3] (by decide +kernel) (by decide +kernel)
set_option maxRecDepth 20000 in
theorem gX7_judge_X7_withoutLast : GoodIn wsX7_judge (va_wsS RX7 217 yX7_withoutLast wsX7_withoutLast) := goodIn_app (goodIn_of _ (by decide +kernel)) ggX7_judge_X7_withoutLast
set_option maxRecDepth 20000 in
theorem ggX7_judge_X2_copy : GoodIn wsX7_judge wsX2_copy := goodIn_r _ [12, 13, 14, 15, 16, 11, 17, 18, 19, 20, 21, 173, 174] (by decide +kernel) (by decide +kernel)
set_option maxRecDepth 20000 in
theorem gX7_judge_X2_copy : GoodIn wsX7_judge (wsV RX7 221 RX2 yX2_copy wsX2_copy) := goodIn_app (goodIn_of _ (by decide +kernel)) ggX7_judge_X2_copy
set_option maxRecDepth 20000 in
theorem ggX7_judge_X7_comesTrue : GoodIn wsX7_judge wsX7_comesTrue := goodIn_r _ [25, 26, 27, 1, 28, 29, 30, 6, 31, 32, 33, 34, 35, 36, 37, 38, 39, 40, 41, 42, 43, 44, 45, 11, 46, 13, 47, 48, 49, 50, 51, 52, 53, 54, 55, 56, 57, 58, 59, 60, 61, 62, 63, 64, 65, 66, 67, 68, 69, 70, 71, 72, 73, 74, 75, 76, 77, 78, 79, 80, 81, 82, 83, 84, 85, 86, 87, 88, 89, 90, 91, 92, 93, 94, 95, 96, 97, 98, 99, 100, 101, 102, 103, 104, 105, 106, 107, 108, 109, 110, 111, 112, 113, 114, 115, 116, 117, 118, 119, 120, 121, 122, 123, 124, 125, 126, 127, 128, 129, 130, 131, 132, 133, 134, 135, 136, 137, 138, 139, 140, 141, 142, 143, 144, 145, 146, 147, 148, 149, 150, 151, 152, 153, 154, 155, 156, 157, 158, 159, 160, 161, 162, 163, 164, 165, 166, 167, 168, 169, 170, 171, 172, 175, 176, 177, 178, 179, 180, 173, 174, 181, 182, 183, 184, 185] (by decide +kernel) (by decide +kernel)
set_option maxRecDepth 20000 in
theorem gX7_judge_X7_comesTrue : GoodIn wsX7_judge (wsV RX7 226 RX7 yX7_comesTrue wsX7_comesTrue) := goodIn_app (goodIn_of _ (by decide +kernel)) ggX7_judge_X7_comesTrue
theorem dX7_judge_0 : decode cX7_judge 0 = .ok (.iload_n 1, 1) := by decide +kernel
theorem dX7_judge_1 : decode cX7_judge 1 = .ok (.iconst 1, 1) := by decide +kernel
theorem dX7_judge_2 : decode cX7_judge 2 = .ok (.if_icmp .lt 24, 3) := by decide +kernel
theorem dX7_judge_5 : decode cX7_judge 5 = .ok (.iload_n 1, 1) := by decide +kernel
theorem dX7_judge_6 : decode cX7_judge 6 = .ok (.iconst 4, 1) := by decide +kernel
theorem dX7_judge_7 : decode cX7_judge 7 = .ok (.if_icmp .gt 19, 3) := by decide +kernel
theorem dX7_judge_10 : decode cX7_judge 10 = .ok (.lload_n 2, 1) := by decide +kernel
theorem dX7_judge_11 : decode cX7_judge 11 = .ok (.lconst 0, 1) := by decide +kernel
theorem dX7_judge_12 : decode cX7_judge 12 = .ok (.lcmp, 1) := by decide +kernel
theorem dX7_judge_13 : decode cX7_judge 13 = .ok (.ifCond .lt 13, 3) := by decide +kernel
theorem dX7_judge_16 : decode cX7_judge 16 = .ok (.lload_n 2, 1) := by decide +kernel
theorem dX7_judge_17 : decode cX7_judge 17 = .ok (.iload_n 1, 1) := by decide +kernel
theorem dX7_judge_18 : decode cX7_judge 18 = .ok (.invokestatic 217, 3) := by decide +kernel
theorem dX7_judge_21 : decode cX7_judge 21 = .ok (.lconst 0, 1) := by decide +kernel
theorem dX7_judge_22 : decode cX7_judge 22 = .ok (.lcmp, 1) := by decide +kernel
theorem dX7_judge_23 : decode cX7_judge 23 = .ok (.ifCond .eq 6, 3) := by decide +kernel
theorem dX7_judge_26 : decode cX7_judge 26 = .ok (.bipush (-2), 2) := by decide +kernel
theorem dX7_judge_28 : decode cX7_judge 28 = .ok (.ireturn, 1) := by decide +kernel
theorem dX7_judge_29 : decode cX7_judge 29 = .ok (.aload_n 0, 1) := by decide +kernel
theorem dX7_judge_30 : decode cX7_judge 30 = .ok (.getfield 41, 3) := by decide +kernel
theorem dX7_judge_33 : decode cX7_judge 33 = .ok (.aload_n 0, 1) := by decide +kernel
theorem dX7_judge_34 : decode cX7_judge 34 = .ok (.getfield 28, 3) := by decide +kernel
theorem dX7_judge_37 : decode cX7_judge 37 = .ok (.invokevirtual 221, 3) := by decide +kernel
theorem dX7_judge_40 : decode cX7_judge 40 = .ok (.iconst 0, 1) := by decide +kernel
theorem dX7_judge_41 : decode cX7_judge 41 = .ok (.istore 4, 2) := by decide +kernel
theorem dX7_judge_43 : decode cX7_judge 43 = .ok (.iload 4, 2) := by decide +kernel
theorem dX7_judge_45 : decode cX7_judge 45 = .ok (.iload_n 1, 1) := by decide +kernel
theorem dX7_judge_46 : decode cX7_judge 46 = .ok (.if_icmp .ge 55, 3) := by decide +kernel
theorem dX7_judge_49 : decode cX7_judge 49 = .ok (.lload_n 2, 1) := by decide +kernel
theorem dX7_judge_50 : decode cX7_judge 50 = .ok (.iload_n 1, 1) := by decide +kernel
theorem dX7_judge_51 : decode cX7_judge 51 = .ok (.iconst 1, 1) := by decide +kernel
theorem dX7_judge_52 : decode cX7_judge 52 = .ok (.isub, 1) := by decide +kernel
theorem dX7_judge_53 : decode cX7_judge 53 = .ok (.iload 4, 2) := by decide +kernel
theorem dX7_judge_55 : decode cX7_judge 55 = .ok (.isub, 1) := by decide +kernel
theorem dX7_judge_56 : decode cX7_judge 56 = .ok (.invokestatic 217, 3) := by decide +kernel
theorem dX7_judge_59 : decode cX7_judge 59 = .ok (.ldc2_w 224, 3) := by decide +kernel
theorem dX7_judge_62 : decode cX7_judge 62 = .ok (.lrem, 1) := by decide +kernel
theorem dX7_judge_63 : decode cX7_judge 63 = .ok (.l2i, 1) := by decide +kernel
theorem dX7_judge_64 : decode cX7_judge 64 = .ok (.istore 5, 2) := by decide +kernel
theorem dX7_judge_66 : decode cX7_judge 66 = .ok (.aload_n 0, 1) := by decide +kernel
theorem dX7_judge_67 : decode cX7_judge 67 = .ok (.iload 5, 2) := by decide +kernel
theorem dX7_judge_69 : decode cX7_judge 69 = .ok (.sipush 1000, 3) := by decide +kernel
theorem dX7_judge_72 : decode cX7_judge 72 = .ok (.idiv, 1) := by decide +kernel
theorem dX7_judge_73 : decode cX7_judge 73 = .ok (.iload 5, 2) := by decide +kernel
theorem dX7_judge_75 : decode cX7_judge 75 = .ok (.bipush 10, 2) := by decide +kernel
theorem dX7_judge_77 : decode cX7_judge 77 = .ok (.idiv, 1) := by decide +kernel
theorem dX7_judge_78 : decode cX7_judge 78 = .ok (.bipush 100, 2) := by decide +kernel
theorem dX7_judge_80 : decode cX7_judge 80 = .ok (.irem, 1) := by decide +kernel
theorem dX7_judge_81 : decode cX7_judge 81 = .ok (.iload 5, 2) := by decide +kernel
theorem dX7_judge_83 : decode cX7_judge 83 = .ok (.bipush 10, 2) := by decide +kernel
theorem dX7_judge_85 : decode cX7_judge 85 = .ok (.irem, 1) := by decide +kernel
theorem dX7_judge_86 : decode cX7_judge 86 = .ok (.invokevirtual 226, 3) := by decide +kernel
theorem dX7_judge_89 : decode cX7_judge 89 = .ok (.ifCond .ne 6, 3) := by decide +kernel
theorem dX7_judge_92 : decode cX7_judge 92 = .ok (.iload 4, 2) := by decide +kernel
theorem dX7_judge_94 : decode cX7_judge 94 = .ok (.ireturn, 1) := by decide +kernel
theorem dX7_judge_95 : decode cX7_judge 95 = .ok (.iinc 4 1, 3) := by decide +kernel
theorem dX7_judge_98 : decode cX7_judge 98 = .ok (.goto (-55), 3) := by decide +kernel
theorem dX7_judge_101 : decode cX7_judge 101 = .ok (.bipush (-9), 2) := by decide +kernel
theorem dX7_judge_103 : decode cX7_judge 103 = .ok (.ireturn, 1) := by decide +kernel
set_option maxRecDepth 20000 in
theorem ggX7_share_X1_hasRow : GoodIn wsX7_share wsX1_hasRow := goodIn_r _ [7, 8, 90, 91, 92, 93, 94, 95] (by decide +kernel) (by decide +kernel)
set_option maxRecDepth 20000 in
theorem gX7_share_X1_hasRow : GoodIn wsX7_share (wsV RX7 230 RX1 yX1_hasRow wsX1_hasRow) := goodIn_app (goodIn_of _ (by decide +kernel)) ggX7_share_X1_hasRow
set_option maxRecDepth 20000 in
theorem ggX7_share_X7_isShade : GoodIn wsX7_share wsX7_isShade := goodIn_r _ [12] (by decide +kernel) (by decide +kernel)
set_option maxRecDepth 20000 in
theorem gX7_share_X7_isShade : GoodIn wsX7_share (va_wsS RX7 171 yX7_isShade wsX7_isShade) := goodIn_app (goodIn_of _ (by decide +kernel)) ggX7_share_X7_isShade
set_option maxRecDepth 20000 in
theorem ggX7_share_X2_atLeast : GoodIn wsX7_share wsX2_atLeast := goodIn_r _ [17, 18, 96, 97] (by decide +kernel) (by decide +kernel)
set_option maxRecDepth 20000 in
theorem gX7_share_X2_atLeast : GoodIn wsX7_share (wsV RX7 174 RX2 yX2_atLeast wsX2_atLeast) := goodIn_app (goodIn_of _ (by decide +kernel)) ggX7_share_X2_atLeast
set_option maxRecDepth 20000 in
theorem ggX7_share_X7_sharedOut : GoodIn wsX7_share wsX7_sharedOut := goodIn_r _ [22, 1, 23, 24, 25, 6, 26, 8, 27, 28, 29, 30, 31, 32, 33, 34, 35, 11, 36, 37, 38, 39, 40, 41, 42, 43, 44, 45, 46, 47, 48, 49, 50, 51, 52, 53, 54, 55, 56, 57, 58, 59, 60, 61, 62, 63, 64, 65, 66, 67, 68, 69, 80, 81, 82, 83, 84, 85, 86, 87, 88, 89, 90, 91, 92, 93, 94, 95] (by decide +kernel) (by decide +kernel)
set_option maxRecDepth 20000 in
theorem gX7_share_X7_sharedOut : GoodIn wsX7_share (wsV RX7 233 RX7 yX7_sharedOut wsX7_sharedOut) := goodIn_app (goodIn_of _ (by decide +kernel)) ggX7_share_X7_sharedOut
set_option maxRecDepth 20000 in
theorem ggX7_share_X1_high : GoodIn wsX7_share wsX1_high := goodIn_r _ [26, 8, 90, 91, 92, 93, 94, 95] (by decide +kernel) (by decide +kernel)
set_option maxRecDepth 20000 in
theorem gX7_share_X1_high : GoodIn wsX7_share (wsV RX7 113 RX1 yX1_high wsX1_high) := goodIn_app (goodIn_of _ (by decide +kernel)) ggX7_share_X1_high
set_option maxRecDepth 20000 in
theorem ggX7_share_X7_factorial : GoodIn wsX7_share wsX7_factorial := goodIn_r _ [36] (by decide +kernel) (by decide +kernel)
set_option maxRecDepth 20000 in
theorem gX7_share_X7_factorial : GoodIn wsX7_share (va_wsS RX7 236 yX7_factorial wsX7_factorial) := goodIn_app (goodIn_of _ (by decide +kernel)) ggX7_share_X7_factorial
set_option maxRecDepth 20000 in
theorem ggX7_share_X7_fraction : GoodIn wsX7_share wsX7_fraction := goodIn_r _ [72, 73, 74, 75, 76, 77, 78, 11, 79] (by decide +kernel) (by decide +kernel)
set_option maxRecDepth 20000 in
theorem gX7_share_X7_fraction : GoodIn wsX7_share (va_wsS RX7 209 yX7_fraction wsX7_fraction) := goodIn_app (goodIn_of _ (by decide +kernel)) ggX7_share_X7_fraction
theorem dX7_share_0 : decode cX7_share 0 = .ok (.aload_n 0, 1) := by decide +kernel
theorem dX7_share_1 : decode cX7_share 1 = .ok (.getfield 19, 3) := by decide +kernel
theorem dX7_share_4 : decode cX7_share 4 = .ok (.iload_n 1, 1) := by decide +kernel
theorem dX7_share_5 : decode cX7_share 5 = .ok (.invokevirtual 230, 3) := by decide +kernel
theorem dX7_share_8 : decode cX7_share 8 = .ok (.ifCond .ne 5, 3) := by decide +kernel
theorem dX7_share_11 : decode cX7_share 11 = .ok (.iconst (-1), 1) := by decide +kernel
theorem dX7_share_12 : decode cX7_share 12 = .ok (.ireturn, 1) := by decide +kernel
theorem dX7_share_13 : decode cX7_share 13 = .ok (.iload_n 2, 1) := by decide +kernel
theorem dX7_share_14 : decode cX7_share 14 = .ok (.invokestatic 171, 3) := by decide +kernel
theorem dX7_share_17 : decode cX7_share 17 = .ok (.ifCond .ne 6, 3) := by decide +kernel
theorem dX7_share_20 : decode cX7_share 20 = .ok (.bipush (-2), 2) := by decide +kernel
theorem dX7_share_22 : decode cX7_share 22 = .ok (.ireturn, 1) := by decide +kernel
theorem dX7_share_23 : decode cX7_share 23 = .ok (.aload_n 0, 1) := by decide +kernel
theorem dX7_share_24 : decode cX7_share 24 = .ok (.aload_n 0, 1) := by decide +kernel
theorem dX7_share_25 : decode cX7_share 25 = .ok (.getfield 28, 3) := by decide +kernel
theorem dX7_share_28 : decode cX7_share 28 = .ok (.iload_n 2, 1) := by decide +kernel
theorem dX7_share_29 : decode cX7_share 29 = .ok (.invokevirtual 174, 3) := by decide +kernel
theorem dX7_share_32 : decode cX7_share 32 = .ok (.iload_n 1, 1) := by decide +kernel
theorem dX7_share_33 : decode cX7_share 33 = .ok (.invokevirtual 233, 3) := by decide +kernel
theorem dX7_share_36 : decode cX7_share 36 = .ok (.aload_n 0, 1) := by decide +kernel
theorem dX7_share_37 : decode cX7_share 37 = .ok (.getfield 19, 3) := by decide +kernel
theorem dX7_share_40 : decode cX7_share 40 = .ok (.invokevirtual 113, 3) := by decide +kernel
theorem dX7_share_43 : decode cX7_share 43 = .ok (.invokestatic 236, 3) := by decide +kernel
theorem dX7_share_46 : decode cX7_share 46 = .ok (.iload_n 3, 1) := by decide +kernel
theorem dX7_share_47 : decode cX7_share 47 = .ok (.invokestatic 209, 3) := by decide +kernel
theorem dX7_share_50 : decode cX7_share 50 = .ok (.ireturn, 1) := by decide +kernel
set_option maxRecDepth 20000 in
theorem ggX7_see_X1_hasDot : GoodIn wsX7_see wsX1_hasDot := goodIn_r _ [7, 8, 9, 10, 6, 11, 12, 13, 37, 38, 39, 40, 41, 42] (by decide +kernel) (by decide +kernel)
set_option maxRecDepth 20000 in
theorem gX7_see_X1_hasDot : GoodIn wsX7_see (wsV RX7 132 RX1 yX1_hasDot wsX1_hasDot) := goodIn_app (goodIn_of _ (by decide +kernel)) ggX7_see_X1_hasDot
set_option maxRecDepth 20000 in
theorem ggX7_see_X3_add : GoodIn wsX7_see wsX3_add := goodIn_r _ [18, 19, 20, 21, 22, 43, 44, 45, 46] (by decide +kernel) (by decide +kernel)
set_option maxRecDepth 20000 in
theorem gX7_see_X3_add : GoodIn wsX7_see (wsV RX7 239 RX3 yX3_add wsX3_add) := goodIn_app (goodIn_of _ (by decide +kernel)) ggX7_see_X3_add
set_option maxRecDepth 20000 in
theorem ggX7_see_X3_size : GoodIn wsX7_see wsX3_size := goodIn_r _ [26, 19, 43, 44, 45, 46] (by decide +kernel) (by decide +kernel)
set_option maxRecDepth 20000 in
theorem gX7_see_X3_size : GoodIn wsX7_see (wsV RX7 131 RX3 yX3_size wsX3_size) := goodIn_app (goodIn_of _ (by decide +kernel)) ggX7_see_X3_size
theorem dX7_see_0 : decode cX7_see 0 = .ok (.aload_n 0, 1) := by decide +kernel
theorem dX7_see_1 : decode cX7_see 1 = .ok (.getfield 19, 3) := by decide +kernel
theorem dX7_see_4 : decode cX7_see 4 = .ok (.iload_n 1, 1) := by decide +kernel
theorem dX7_see_5 : decode cX7_see 5 = .ok (.invokevirtual 132, 3) := by decide +kernel
theorem dX7_see_8 : decode cX7_see 8 = .ok (.ifCond .eq 14, 3) := by decide +kernel
theorem dX7_see_11 : decode cX7_see 11 = .ok (.aload_n 0, 1) := by decide +kernel
theorem dX7_see_12 : decode cX7_see 12 = .ok (.getfield 19, 3) := by decide +kernel
theorem dX7_see_15 : decode cX7_see 15 = .ok (.iload_n 2, 1) := by decide +kernel
theorem dX7_see_16 : decode cX7_see 16 = .ok (.invokevirtual 132, 3) := by decide +kernel
theorem dX7_see_19 : decode cX7_see 19 = .ok (.ifCond .ne 5, 3) := by decide +kernel
theorem dX7_see_22 : decode cX7_see 22 = .ok (.iconst (-1), 1) := by decide +kernel
theorem dX7_see_23 : decode cX7_see 23 = .ok (.ireturn, 1) := by decide +kernel
theorem dX7_see_24 : decode cX7_see 24 = .ok (.iload_n 3, 1) := by decide +kernel
theorem dX7_see_25 : decode cX7_see 25 = .ok (.ifCond .eq 11, 3) := by decide +kernel
theorem dX7_see_28 : decode cX7_see 28 = .ok (.iload_n 3, 1) := by decide +kernel
theorem dX7_see_29 : decode cX7_see 29 = .ok (.iconst 1, 1) := by decide +kernel
theorem dX7_see_30 : decode cX7_see 30 = .ok (.if_icmp .eq 6, 3) := by decide +kernel
theorem dX7_see_33 : decode cX7_see 33 = .ok (.bipush (-2), 2) := by decide +kernel
theorem dX7_see_35 : decode cX7_see 35 = .ok (.ireturn, 1) := by decide +kernel
theorem dX7_see_36 : decode cX7_see 36 = .ok (.aload_n 0, 1) := by decide +kernel
theorem dX7_see_37 : decode cX7_see 37 = .ok (.getfield 64, 3) := by decide +kernel
theorem dX7_see_40 : decode cX7_see 40 = .ok (.iload_n 1, 1) := by decide +kernel
theorem dX7_see_41 : decode cX7_see 41 = .ok (.iload_n 2, 1) := by decide +kernel
theorem dX7_see_42 : decode cX7_see 42 = .ok (.iload_n 3, 1) := by decide +kernel
theorem dX7_see_43 : decode cX7_see 43 = .ok (.iconst 1, 1) := by decide +kernel
theorem dX7_see_44 : decode cX7_see 44 = .ok (.if_icmp .ne 7, 3) := by decide +kernel
theorem dX7_see_47 : decode cX7_see 47 = .ok (.iconst 1, 1) := by decide +kernel
theorem dX7_see_48 : decode cX7_see 48 = .ok (.goto 4, 3) := by decide +kernel
theorem dX7_see_51 : decode cX7_see 51 = .ok (.iconst 0, 1) := by decide +kernel
theorem dX7_see_52 : decode cX7_see 52 = .ok (.invokevirtual 239, 3) := by decide +kernel
theorem dX7_see_55 : decode cX7_see 55 = .ok (.ifCond .eq 13, 3) := by decide +kernel
theorem dX7_see_58 : decode cX7_see 58 = .ok (.aload_n 0, 1) := by decide +kernel
theorem dX7_see_59 : decode cX7_see 59 = .ok (.getfield 64, 3) := by decide +kernel
theorem dX7_see_62 : decode cX7_see 62 = .ok (.invokevirtual 131, 3) := by decide +kernel
theorem dX7_see_65 : decode cX7_see 65 = .ok (.goto 5, 3) := by decide +kernel
theorem dX7_see_68 : decode cX7_see 68 = .ok (.bipush (-4), 2) := by decide +kernel
theorem dX7_see_70 : decode cX7_see 70 = .ok (.ireturn, 1) := by decide +kernel
set_option maxRecDepth 20000 in
theorem ggX7_unsee_X3_size : GoodIn wsX7_unsee wsX3_size := goodIn_r _ [6, 7, 22, 23, 24, 25] (by decide +kernel) (by decide +kernel)
set_option maxRecDepth 20000 in
theorem gX7_unsee_X3_size : GoodIn wsX7_unsee (wsV RX7 131 RX3 yX3_size wsX3_size) := goodIn_app (goodIn_of _ (by decide +kernel)) ggX7_unsee_X3_size
set_option maxRecDepth 20000 in
theorem ggX7_unsee_X3_clear : GoodIn wsX7_unsee wsX3_clear := goodIn_r _ [11, 7, 22, 23, 24, 25] (by decide +kernel) (by decide +kernel)
set_option maxRecDepth 20000 in
theorem gX7_unsee_X3_clear : GoodIn wsX7_unsee (wsV RX7 242 RX3 yX3_clear wsX3_clear) := goodIn_app (goodIn_of _ (by decide +kernel)) ggX7_unsee_X3_clear
theorem dX7_unsee_0 : decode cX7_unsee 0 = .ok (.aload_n 0, 1) := by decide +kernel
theorem dX7_unsee_1 : decode cX7_unsee 1 = .ok (.getfield 64, 3) := by decide +kernel
theorem dX7_unsee_4 : decode cX7_unsee 4 = .ok (.invokevirtual 131, 3) := by decide +kernel
theorem dX7_unsee_7 : decode cX7_unsee 7 = .ok (.istore_n 1, 1) := by decide +kernel
theorem dX7_unsee_8 : decode cX7_unsee 8 = .ok (.aload_n 0, 1) := by decide +kernel
theorem dX7_unsee_9 : decode cX7_unsee 9 = .ok (.getfield 64, 3) := by decide +kernel
theorem dX7_unsee_12 : decode cX7_unsee 12 = .ok (.invokevirtual 242, 3) := by decide +kernel
theorem dX7_unsee_15 : decode cX7_unsee 15 = .ok (.iload_n 1, 1) := by decide +kernel
theorem dX7_unsee_16 : decode cX7_unsee 16 = .ok (.ireturn, 1) := by decide +kernel
set_option maxRecDepth 20000 in
theorem ggX7_ways_X2_atLeast : GoodIn wsX7_ways wsX2_atLeast := goodIn_r _ [8, 9, 55, 56] (by decide +kernel) (by decide +kernel)
set_option maxRecDepth 20000 in
theorem gX7_ways_X2_atLeast : GoodIn wsX7_ways (wsV RX7 174 RX2 yX2_atLeast wsX2_atLeast) := goodIn_app (goodIn_of _ (by decide +kernel)) ggX7_ways_X2_atLeast
set_option maxRecDepth 20000 in
theorem ggX7_ways_X3_hold : GoodIn wsX7_ways wsX3_hold := goodIn_r _ [14, 15, 16, 17, 18, 19, 20, 21, 22, 23, 24, 25, 26, 27, 28, 29, 30, 31, 32, 33, 34, 35, 36, 37, 38, 39, 40, 41, 42, 43, 44, 57, 58, 59, 60, 61, 62, 63, 64, 65, 66] (by decide +kernel) (by decide +kernel)
set_option maxRecDepth 20000 in
theorem gX7_ways_X3_hold : GoodIn wsX7_ways (wsV RX7 243 RX3 yX3_hold wsX3_hold) := goodIn_app (goodIn_of _ (by decide +kernel)) ggX7_ways_X3_hold
theorem dX7_ways_0 : decode cX7_ways 0 = .ok (.iload_n 1, 1) := by decide +kernel
theorem dX7_ways_1 : decode cX7_ways 1 = .ok (.ifCond .eq 11, 3) := by decide +kernel
theorem dX7_ways_4 : decode cX7_ways 4 = .ok (.iload_n 1, 1) := by decide +kernel
theorem dX7_ways_5 : decode cX7_ways 5 = .ok (.iconst 1, 1) := by decide +kernel
theorem dX7_ways_6 : decode cX7_ways 6 = .ok (.if_icmp .eq 6, 3) := by decide +kernel
theorem dX7_ways_9 : decode cX7_ways 9 = .ok (.bipush (-2), 2) := by decide +kernel
theorem dX7_ways_11 : decode cX7_ways 11 = .ok (.ireturn, 1) := by decide +kernel
theorem dX7_ways_12 : decode cX7_ways 12 = .ok (.iconst 0, 1) := by decide +kernel
theorem dX7_ways_13 : decode cX7_ways 13 = .ok (.istore_n 2, 1) := by decide +kernel
theorem dX7_ways_14 : decode cX7_ways 14 = .ok (.bipush (-9), 2) := by decide +kernel
theorem dX7_ways_16 : decode cX7_ways 16 = .ok (.istore_n 3, 1) := by decide +kernel
theorem dX7_ways_17 : decode cX7_ways 17 = .ok (.iconst 0, 1) := by decide +kernel
theorem dX7_ways_18 : decode cX7_ways 18 = .ok (.istore 4, 2) := by decide +kernel
theorem dX7_ways_20 : decode cX7_ways 20 = .ok (.iload 4, 2) := by decide +kernel
theorem dX7_ways_22 : decode cX7_ways 22 = .ok (.bipush 9, 2) := by decide +kernel
theorem dX7_ways_24 : decode cX7_ways 24 = .ok (.if_icmp .gt 72, 3) := by decide +kernel
theorem dX7_ways_27 : decode cX7_ways 27 = .ok (.iconst 4, 1) := by decide +kernel
theorem dX7_ways_28 : decode cX7_ways 28 = .ok (.istore 5, 2) := by decide +kernel
theorem dX7_ways_30 : decode cX7_ways 30 = .ok (.iload 5, 2) := by decide +kernel
theorem dX7_ways_32 : decode cX7_ways 32 = .ok (.bipush 8, 2) := by decide +kernel
theorem dX7_ways_34 : decode cX7_ways 34 = .ok (.if_icmp .gt 56, 3) := by decide +kernel
theorem dX7_ways_37 : decode cX7_ways 37 = .ok (.aload_n 0, 1) := by decide +kernel
theorem dX7_ways_38 : decode cX7_ways 38 = .ok (.getfield 64, 3) := by decide +kernel
theorem dX7_ways_41 : decode cX7_ways 41 = .ok (.aload_n 0, 1) := by decide +kernel
theorem dX7_ways_42 : decode cX7_ways 42 = .ok (.getfield 19, 3) := by decide +kernel
theorem dX7_ways_45 : decode cX7_ways 45 = .ok (.aload_n 0, 1) := by decide +kernel
theorem dX7_ways_46 : decode cX7_ways 46 = .ok (.getfield 28, 3) := by decide +kernel
theorem dX7_ways_49 : decode cX7_ways 49 = .ok (.iload 4, 2) := by decide +kernel
theorem dX7_ways_51 : decode cX7_ways 51 = .ok (.invokevirtual 174, 3) := by decide +kernel
theorem dX7_ways_54 : decode cX7_ways 54 = .ok (.iload 5, 2) := by decide +kernel
theorem dX7_ways_56 : decode cX7_ways 56 = .ok (.invokevirtual 243, 3) := by decide +kernel
theorem dX7_ways_59 : decode cX7_ways 59 = .ok (.ifCond .eq 25, 3) := by decide +kernel
theorem dX7_ways_62 : decode cX7_ways 62 = .ok (.iinc 2 1, 3) := by decide +kernel
theorem dX7_ways_65 : decode cX7_ways 65 = .ok (.iload_n 3, 1) := by decide +kernel
theorem dX7_ways_66 : decode cX7_ways 66 = .ok (.bipush (-9), 2) := by decide +kernel
theorem dX7_ways_68 : decode cX7_ways 68 = .ok (.if_icmp .ne 14, 3) := by decide +kernel
theorem dX7_ways_71 : decode cX7_ways 71 = .ok (.bipush 10, 2) := by decide +kernel
theorem dX7_ways_73 : decode cX7_ways 73 = .ok (.iload 4, 2) := by decide +kernel
theorem dX7_ways_75 : decode cX7_ways 75 = .ok (.imul, 1) := by decide +kernel
theorem dX7_ways_76 : decode cX7_ways 76 = .ok (.iload 5, 2) := by decide +kernel
theorem dX7_ways_78 : decode cX7_ways 78 = .ok (.iadd, 1) := by decide +kernel
theorem dX7_ways_79 : decode cX7_ways 79 = .ok (.goto 4, 3) := by decide +kernel
theorem dX7_ways_82 : decode cX7_ways 82 = .ok (.iload_n 3, 1) := by decide +kernel
theorem dX7_ways_83 : decode cX7_ways 83 = .ok (.istore_n 3, 1) := by decide +kernel
theorem dX7_ways_84 : decode cX7_ways 84 = .ok (.iinc 5 4, 3) := by decide +kernel
theorem dX7_ways_87 : decode cX7_ways 87 = .ok (.goto (-57), 3) := by decide +kernel
theorem dX7_ways_90 : decode cX7_ways 90 = .ok (.iinc 4 1, 3) := by decide +kernel
theorem dX7_ways_93 : decode cX7_ways 93 = .ok (.goto (-73), 3) := by decide +kernel
theorem dX7_ways_96 : decode cX7_ways 96 = .ok (.iload_n 1, 1) := by decide +kernel
theorem dX7_ways_97 : decode cX7_ways 97 = .ok (.ifCond .ne 7, 3) := by decide +kernel
theorem dX7_ways_100 : decode cX7_ways 100 = .ok (.iload_n 2, 1) := by decide +kernel
theorem dX7_ways_101 : decode cX7_ways 101 = .ok (.goto 4, 3) := by decide +kernel
theorem dX7_ways_104 : decode cX7_ways 104 = .ok (.iload_n 3, 1) := by decide +kernel
theorem dX7_ways_105 : decode cX7_ways 105 = .ok (.ireturn, 1) := by decide +kernel
set_option maxRecDepth 20000 in
theorem ggX7_fades_X1_hasRow : GoodIn wsX7_fades wsX1_hasRow := goodIn_r _ [7, 8, 76, 77, 78, 79, 80, 81] (by decide +kernel) (by decide +kernel)
set_option maxRecDepth 20000 in
theorem gX7_fades_X1_hasRow : GoodIn wsX7_fades (wsV RX7 230 RX1 yX1_hasRow wsX1_hasRow) := goodIn_app (goodIn_of _ (by decide +kernel)) ggX7_fades_X1_hasRow
set_option maxRecDepth 20000 in
theorem ggX7_fades_X2_atLeast : GoodIn wsX7_fades wsX2_atLeast := goodIn_r _ [13, 14, 82, 83] (by decide +kernel) (by decide +kernel)
set_option maxRecDepth 20000 in
theorem gX7_fades_X2_atLeast : GoodIn wsX7_fades (wsV RX7 174 RX2 yX2_atLeast wsX2_atLeast) := goodIn_app (goodIn_of _ (by decide +kernel)) ggX7_fades_X2_atLeast
set_option maxRecDepth 20000 in
theorem ggX7_fades_X1_row : GoodIn wsX7_fades wsX1_row := goodIn_r _ [18, 19, 76, 77, 78, 79, 80, 81] (by decide +kernel) (by decide +kernel)
set_option maxRecDepth 20000 in
theorem gX7_fades_X1_row : GoodIn wsX7_fades (wsV RX7 247 RX1 yX1_row wsX1_row) := goodIn_app (goodIn_of _ (by decide +kernel)) ggX7_fades_X1_row
set_option maxRecDepth 20000 in
theorem ggX7_fades_X7_fadedOut : GoodIn wsX7_fades wsX7_fadedOut := goodIn_r _ [24, 1, 25, 26, 27, 28, 6, 29, 30, 31, 32, 33, 34, 35, 36, 37, 38, 39, 40, 41, 42, 43, 44, 45, 19, 46, 47, 48, 49, 50, 51, 52, 53, 54, 23, 55, 66, 67, 68, 69, 70, 71, 72, 73, 74, 75, 76, 77, 78, 79, 80, 81] (by decide +kernel) (by decide +kernel)
set_option maxRecDepth 20000 in
theorem gX7_fades_X7_fadedOut : GoodIn wsX7_fades (wsV RX7 250 RX7 yX7_fadedOut wsX7_fadedOut) := goodIn_app (goodIn_of _ (by decide +kernel)) ggX7_fades_X7_fadedOut
set_option maxRecDepth 20000 in
theorem ggX7_fades_J13_bitCount_95d88 : GoodIn wsX7_fades wsJ13_bitCount_95d88 := goodIn_r _ [49, 50, 51, 52] (by decide +kernel) (by decide +kernel)
set_option maxRecDepth 20000 in
theorem gX7_fades_J13_bitCount_95d88 : GoodIn wsX7_fades (va_wsS RX7 146 yJ13_bitCount_95d88 wsJ13_bitCount_95d88) := goodIn_app (goodIn_of _ (by decide +kernel)) ggX7_fades_J13_bitCount_95d88
set_option maxRecDepth 20000 in
theorem ggX7_fades_X7_power : GoodIn wsX7_fades wsX7_power := goodIn_r _ [55] (by decide +kernel) (by decide +kernel)
set_option maxRecDepth 20000 in
theorem gX7_fades_X7_power : GoodIn wsX7_fades (va_wsS RX7 254 yX7_power wsX7_power) := goodIn_app (goodIn_of _ (by decide +kernel)) ggX7_fades_X7_power
set_option maxRecDepth 20000 in
theorem ggX7_fades_X7_fraction : GoodIn wsX7_fades wsX7_fraction := goodIn_r _ [58, 59, 60, 61, 62, 63, 64, 23, 65] (by decide +kernel) (by decide +kernel)
set_option maxRecDepth 20000 in
theorem gX7_fades_X7_fraction : GoodIn wsX7_fades (va_wsS RX7 209 yX7_fraction wsX7_fraction) := goodIn_app (goodIn_of _ (by decide +kernel)) ggX7_fades_X7_fraction
theorem dX7_fades_0 : decode cX7_fades 0 = .ok (.aload_n 0, 1) := by decide +kernel
theorem dX7_fades_1 : decode cX7_fades 1 = .ok (.getfield 19, 3) := by decide +kernel
theorem dX7_fades_4 : decode cX7_fades 4 = .ok (.iload_n 1, 1) := by decide +kernel
theorem dX7_fades_5 : decode cX7_fades 5 = .ok (.invokevirtual 230, 3) := by decide +kernel
theorem dX7_fades_8 : decode cX7_fades 8 = .ok (.ifCond .ne 5, 3) := by decide +kernel
theorem dX7_fades_11 : decode cX7_fades 11 = .ok (.iconst (-1), 1) := by decide +kernel
theorem dX7_fades_12 : decode cX7_fades 12 = .ok (.ireturn, 1) := by decide +kernel
theorem dX7_fades_13 : decode cX7_fades 13 = .ok (.iload_n 2, 1) := by decide +kernel
theorem dX7_fades_14 : decode cX7_fades 14 = .ok (.iconst 1, 1) := by decide +kernel
theorem dX7_fades_15 : decode cX7_fades 15 = .ok (.if_icmp .lt 31, 3) := by decide +kernel
theorem dX7_fades_18 : decode cX7_fades 18 = .ok (.iload_n 2, 1) := by decide +kernel
theorem dX7_fades_19 : decode cX7_fades 19 = .ok (.bipush 9, 2) := by decide +kernel
theorem dX7_fades_21 : decode cX7_fades 21 = .ok (.if_icmp .gt 25, 3) := by decide +kernel
theorem dX7_fades_24 : decode cX7_fades 24 = .ok (.iload_n 3, 1) := by decide +kernel
theorem dX7_fades_25 : decode cX7_fades 25 = .ok (.ifCond .lt 21, 3) := by decide +kernel
theorem dX7_fades_28 : decode cX7_fades 28 = .ok (.iload_n 3, 1) := by decide +kernel
theorem dX7_fades_29 : decode cX7_fades 29 = .ok (.bipush 36, 2) := by decide +kernel
theorem dX7_fades_31 : decode cX7_fades 31 = .ok (.if_icmp .gt 15, 3) := by decide +kernel
theorem dX7_fades_34 : decode cX7_fades 34 = .ok (.iload 4, 2) := by decide +kernel
theorem dX7_fades_36 : decode cX7_fades 36 = .ok (.ifCond .lt 10, 3) := by decide +kernel
theorem dX7_fades_39 : decode cX7_fades 39 = .ok (.iload 4, 2) := by decide +kernel
theorem dX7_fades_41 : decode cX7_fades 41 = .ok (.bipush 10, 2) := by decide +kernel
theorem dX7_fades_43 : decode cX7_fades 43 = .ok (.if_icmp .le 6, 3) := by decide +kernel
theorem dX7_fades_46 : decode cX7_fades 46 = .ok (.bipush (-2), 2) := by decide +kernel
theorem dX7_fades_48 : decode cX7_fades 48 = .ok (.ireturn, 1) := by decide +kernel
theorem dX7_fades_49 : decode cX7_fades 49 = .ok (.aload_n 0, 1) := by decide +kernel
theorem dX7_fades_50 : decode cX7_fades 50 = .ok (.getfield 28, 3) := by decide +kernel
theorem dX7_fades_53 : decode cX7_fades 53 = .ok (.iload_n 2, 1) := by decide +kernel
theorem dX7_fades_54 : decode cX7_fades 54 = .ok (.invokevirtual 174, 3) := by decide +kernel
theorem dX7_fades_57 : decode cX7_fades 57 = .ok (.lstore 6, 2) := by decide +kernel
theorem dX7_fades_59 : decode cX7_fades 59 = .ok (.lload 6, 2) := by decide +kernel
theorem dX7_fades_61 : decode cX7_fades 61 = .ok (.aload_n 0, 1) := by decide +kernel
theorem dX7_fades_62 : decode cX7_fades 62 = .ok (.getfield 19, 3) := by decide +kernel
theorem dX7_fades_65 : decode cX7_fades 65 = .ok (.iload_n 1, 1) := by decide +kernel
theorem dX7_fades_66 : decode cX7_fades 66 = .ok (.invokevirtual 247, 3) := by decide +kernel
theorem dX7_fades_69 : decode cX7_fades 69 = .ok (.land, 1) := by decide +kernel
theorem dX7_fades_70 : decode cX7_fades 70 = .ok (.lstore 8, 2) := by decide +kernel
theorem dX7_fades_72 : decode cX7_fades 72 = .ok (.aload_n 0, 1) := by decide +kernel
theorem dX7_fades_73 : decode cX7_fades 73 = .ok (.lload 6, 2) := by decide +kernel
theorem dX7_fades_75 : decode cX7_fades 75 = .ok (.lload 8, 2) := by decide +kernel
theorem dX7_fades_77 : decode cX7_fades 77 = .ok (.iload_n 3, 1) := by decide +kernel
theorem dX7_fades_78 : decode cX7_fades 78 = .ok (.iload 4, 2) := by decide +kernel
theorem dX7_fades_80 : decode cX7_fades 80 = .ok (.invokevirtual 250, 3) := by decide +kernel
theorem dX7_fades_83 : decode cX7_fades 83 = .ok (.bipush 10, 2) := by decide +kernel
theorem dX7_fades_85 : decode cX7_fades 85 = .ok (.lload 8, 2) := by decide +kernel
theorem dX7_fades_87 : decode cX7_fades 87 = .ok (.invokestatic 146, 3) := by decide +kernel
theorem dX7_fades_90 : decode cX7_fades 90 = .ok (.invokestatic 254, 3) := by decide +kernel
theorem dX7_fades_93 : decode cX7_fades 93 = .ok (.iload 5, 2) := by decide +kernel
theorem dX7_fades_95 : decode cX7_fades 95 = .ok (.invokestatic 209, 3) := by decide +kernel
theorem dX7_fades_98 : decode cX7_fades 98 = .ok (.ireturn, 1) := by decide +kernel
theorem dX7_seed_0 : decode cX7_seed 0 = .ok (.aload_n 0, 1) := by decide +kernel
theorem dX7_seed_1 : decode cX7_seed 1 = .ok (.getfield 68, 3) := by decide +kernel
theorem dX7_seed_4 : decode cX7_seed 4 = .ok (.lstore_n 3, 1) := by decide +kernel
theorem dX7_seed_5 : decode cX7_seed 5 = .ok (.aload_n 0, 1) := by decide +kernel
theorem dX7_seed_6 : decode cX7_seed 6 = .ok (.lload_n 1, 1) := by decide +kernel
theorem dX7_seed_7 : decode cX7_seed 7 = .ok (.putfield 68, 3) := by decide +kernel
theorem dX7_seed_10 : decode cX7_seed 10 = .ok (.lload_n 3, 1) := by decide +kernel
theorem dX7_seed_11 : decode cX7_seed 11 = .ok (.lreturn, 1) := by decide +kernel
set_option maxRecDepth 20000 in
theorem ggX7_drawn_X2_copy : GoodIn wsX7_drawn wsX2_copy := goodIn_r _ [11, 12, 13, 14, 15, 10, 16, 17, 18, 19, 20, 142, 143] (by decide +kernel) (by decide +kernel)
set_option maxRecDepth 20000 in
theorem gX7_drawn_X2_copy : GoodIn wsX7_drawn (wsV RX7 221 RX2 yX2_copy wsX2_copy) := goodIn_app (goodIn_of _ (by decide +kernel)) ggX7_drawn_X2_copy
set_option maxRecDepth 20000 in
theorem ggX7_drawn_X7_change : GoodIn wsX7_drawn wsX7_change := goodIn_r _ [25, 26, 27, 28, 1, 29, 30, 31, 32, 33, 34, 35, 36, 37, 38, 10, 39, 12, 40, 41, 42, 43, 44, 45, 46, 47, 48, 49, 50, 51, 52, 53, 54, 55, 56, 57, 58, 59, 60, 61, 62, 63, 64, 65, 66, 67, 68, 69, 70, 71, 72, 73, 74, 75, 76, 77, 78, 79, 80, 81, 82, 83, 84, 85, 86, 87, 88, 89, 90, 91, 92, 93, 94, 95, 96, 97, 98, 99, 100, 101, 102, 103, 104, 105, 132, 133, 134, 135, 136, 137, 138, 139, 140, 141, 144, 145, 146, 147, 148, 149, 142, 143] (by decide +kernel) (by decide +kernel)
set_option maxRecDepth 20000 in
theorem gX7_drawn_X7_change : GoodIn wsX7_drawn (wsV RX7 261 RX7 yX7_change wsX7_change) := goodIn_app (goodIn_of _ (by decide +kernel)) ggX7_drawn_X7_change
set_option maxRecDepth 20000 in
theorem ggX7_drawn_X6_countNodes : GoodIn wsX7_drawn wsX6_countNodes := goodIn_r _ [110, 111, 112, 113, 114, 109, 115, 116, 117, 118, 119, 120, 121, 122, 123, 124, 52, 53, 10, 54, 12, 125, 126, 127, 128, 129, 130, 68, 69, 32, 70, 71, 131, 73, 74, 75, 76, 77, 78, 79, 80, 81, 82, 34, 150, 151, 152, 153, 154, 142, 143, 144, 145, 146, 147, 148, 149] (by decide +kernel) (by decide +kernel)
set_option maxRecDepth 20000 in
theorem gX7_drawn_X6_countNodes : GoodIn wsX7_drawn (wsV RX7 104 RX6 yX6_countNodes wsX6_countNodes) := goodIn_app (goodIn_of _ (by decide +kernel)) ggX7_drawn_X6_countNodes
theorem dX7_drawn_0 : decode cX7_drawn 0 = .ok (.iload_n 1, 1) := by decide +kernel
theorem dX7_drawn_1 : decode cX7_drawn 1 = .ok (.iconst 1, 1) := by decide +kernel
theorem dX7_drawn_2 : decode cX7_drawn 2 = .ok (.if_icmp .lt 9, 3) := by decide +kernel
theorem dX7_drawn_5 : decode cX7_drawn 5 = .ok (.iload_n 1, 1) := by decide +kernel
theorem dX7_drawn_6 : decode cX7_drawn 6 = .ok (.bipush 20, 2) := by decide +kernel
theorem dX7_drawn_8 : decode cX7_drawn 8 = .ok (.if_icmp .le 6, 3) := by decide +kernel
theorem dX7_drawn_11 : decode cX7_drawn 11 = .ok (.bipush (-2), 2) := by decide +kernel
theorem dX7_drawn_13 : decode cX7_drawn 13 = .ok (.ireturn, 1) := by decide +kernel
theorem dX7_drawn_14 : decode cX7_drawn 14 = .ok (.aload_n 0, 1) := by decide +kernel
theorem dX7_drawn_15 : decode cX7_drawn 15 = .ok (.getfield 41, 3) := by decide +kernel
theorem dX7_drawn_18 : decode cX7_drawn 18 = .ok (.aload_n 0, 1) := by decide +kernel
theorem dX7_drawn_19 : decode cX7_drawn 19 = .ok (.getfield 28, 3) := by decide +kernel
theorem dX7_drawn_22 : decode cX7_drawn 22 = .ok (.invokevirtual 221, 3) := by decide +kernel
theorem dX7_drawn_25 : decode cX7_drawn 25 = .ok (.iconst 0, 1) := by decide +kernel
theorem dX7_drawn_26 : decode cX7_drawn 26 = .ok (.istore_n 2, 1) := by decide +kernel
theorem dX7_drawn_27 : decode cX7_drawn 27 = .ok (.iconst 0, 1) := by decide +kernel
theorem dX7_drawn_28 : decode cX7_drawn 28 = .ok (.istore_n 3, 1) := by decide +kernel
theorem dX7_drawn_29 : decode cX7_drawn 29 = .ok (.iload_n 3, 1) := by decide +kernel
theorem dX7_drawn_30 : decode cX7_drawn 30 = .ok (.iload_n 1, 1) := by decide +kernel
theorem dX7_drawn_31 : decode cX7_drawn 31 = .ok (.if_icmp .ge 46, 3) := by decide +kernel
theorem dX7_drawn_34 : decode cX7_drawn 34 = .ok (.aload_n 0, 1) := by decide +kernel
theorem dX7_drawn_35 : decode cX7_drawn 35 = .ok (.aload_n 0, 1) := by decide +kernel
theorem dX7_drawn_36 : decode cX7_drawn 36 = .ok (.getfield 68, 3) := by decide +kernel
theorem dX7_drawn_39 : decode cX7_drawn 39 = .ok (.ldc2_w 257, 3) := by decide +kernel
theorem dX7_drawn_42 : decode cX7_drawn 42 = .ok (.lmul, 1) := by decide +kernel
theorem dX7_drawn_43 : decode cX7_drawn 43 = .ok (.ldc2_w 259, 3) := by decide +kernel
theorem dX7_drawn_46 : decode cX7_drawn 46 = .ok (.ladd, 1) := by decide +kernel
theorem dX7_drawn_47 : decode cX7_drawn 47 = .ok (.putfield 68, 3) := by decide +kernel
theorem dX7_drawn_50 : decode cX7_drawn 50 = .ok (.aload_n 0, 1) := by decide +kernel
theorem dX7_drawn_51 : decode cX7_drawn 51 = .ok (.aload_n 0, 1) := by decide +kernel
theorem dX7_drawn_52 : decode cX7_drawn 52 = .ok (.getfield 68, 3) := by decide +kernel
theorem dX7_drawn_55 : decode cX7_drawn 55 = .ok (.bipush 33, 2) := by decide +kernel
theorem dX7_drawn_57 : decode cX7_drawn 57 = .ok (.lushr, 1) := by decide +kernel
theorem dX7_drawn_58 : decode cX7_drawn 58 = .ok (.invokevirtual 261, 3) := by decide +kernel
theorem dX7_drawn_61 : decode cX7_drawn 61 = .ok (.iload_n 2, 1) := by decide +kernel
theorem dX7_drawn_62 : decode cX7_drawn 62 = .ok (.aload_n 0, 1) := by decide +kernel
theorem dX7_drawn_63 : decode cX7_drawn 63 = .ok (.getfield 44, 3) := by decide +kernel
theorem dX7_drawn_66 : decode cX7_drawn 66 = .ok (.invokevirtual 104, 3) := by decide +kernel
theorem dX7_drawn_69 : decode cX7_drawn 69 = .ok (.iadd, 1) := by decide +kernel
theorem dX7_drawn_70 : decode cX7_drawn 70 = .ok (.istore_n 2, 1) := by decide +kernel
theorem dX7_drawn_71 : decode cX7_drawn 71 = .ok (.iinc 3 1, 3) := by decide +kernel
theorem dX7_drawn_74 : decode cX7_drawn 74 = .ok (.goto (-45), 3) := by decide +kernel
theorem dX7_drawn_77 : decode cX7_drawn 77 = .ok (.iload_n 2, 1) := by decide +kernel
theorem dX7_drawn_78 : decode cX7_drawn 78 = .ok (.ireturn, 1) := by decide +kernel
set_option maxRecDepth 20000 in
theorem ggX7_keep_X4_put : GoodIn wsX7_keep wsX4_put := goodIn_r _ [8, 9, 10, 11, 12, 13, 14, 15, 16, 17, 18, 19, 20, 76, 77, 78, 79] (by decide +kernel) (by decide +kernel)
set_option maxRecDepth 20000 in
theorem gX7_keep_X4_put : GoodIn wsX7_keep (wsV RX7 265 RX4 yX4_put wsX4_put) := goodIn_app (goodIn_of _ (by decide +kernel)) ggX7_keep_X4_put
set_option maxRecDepth 20000 in
theorem ggX7_keep_X6_countNodes : GoodIn wsX7_keep wsX6_countNodes := goodIn_r _ [25, 26, 27, 28, 29, 24, 30, 31, 32, 33, 34, 35, 36, 37, 38, 39, 40, 41, 14, 42, 16, 43, 44, 45, 46, 47, 48, 49, 50, 51, 52, 53, 54, 55, 56, 57, 58, 59, 60, 61, 62, 63, 64, 65, 80, 81, 82, 83, 84, 78, 79, 85, 86, 87, 88, 89, 90] (by decide +kernel) (by decide +kernel)
set_option maxRecDepth 20000 in
theorem gX7_keep_X6_countNodes : GoodIn wsX7_keep (wsV RX7 104 RX6 yX6_countNodes wsX6_countNodes) := goodIn_app (goodIn_of _ (by decide +kernel)) ggX7_keep_X6_countNodes
theorem dX7_keep_0 : decode cX7_keep 0 = .ok (.aload_n 0, 1) := by decide +kernel
theorem dX7_keep_1 : decode cX7_keep 1 = .ok (.getfield 57, 3) := by decide +kernel
theorem dX7_keep_4 : decode cX7_keep 4 = .ok (.iload_n 1, 1) := by decide +kernel
theorem dX7_keep_5 : decode cX7_keep 5 = .ok (.aload_n 0, 1) := by decide +kernel
theorem dX7_keep_6 : decode cX7_keep 6 = .ok (.getfield 28, 3) := by decide +kernel
theorem dX7_keep_9 : decode cX7_keep 9 = .ok (.invokevirtual 265, 3) := by decide +kernel
theorem dX7_keep_12 : decode cX7_keep 12 = .ok (.ifCond .eq 13, 3) := by decide +kernel
theorem dX7_keep_15 : decode cX7_keep 15 = .ok (.aload_n 0, 1) := by decide +kernel
theorem dX7_keep_16 : decode cX7_keep 16 = .ok (.getfield 37, 3) := by decide +kernel
theorem dX7_keep_19 : decode cX7_keep 19 = .ok (.invokevirtual 104, 3) := by decide +kernel
theorem dX7_keep_22 : decode cX7_keep 22 = .ok (.goto 4, 3) := by decide +kernel
theorem dX7_keep_25 : decode cX7_keep 25 = .ok (.iconst (-1), 1) := by decide +kernel
theorem dX7_keep_26 : decode cX7_keep 26 = .ok (.ireturn, 1) := by decide +kernel
set_option maxRecDepth 20000 in
theorem ggX7_again_X4_has : GoodIn wsX7_again wsX4_has := goodIn_r _ [9, 10, 87, 88] (by decide +kernel) (by decide +kernel)
set_option maxRecDepth 20000 in
theorem gX7_again_X4_has : GoodIn wsX7_again (wsV RX7 269 RX4 yX4_has wsX4_has) := goodIn_app (goodIn_of _ (by decide +kernel)) ggX7_again_X4_has
set_option maxRecDepth 20000 in
theorem ggX7_again_X4_bringBack : GoodIn wsX7_again wsX4_bringBack := goodIn_r _ [14, 10, 15, 16, 17, 18, 19, 20, 21, 22, 23, 24, 25, 87, 88, 89, 90] (by decide +kernel) (by decide +kernel)
set_option maxRecDepth 20000 in
theorem gX7_again_X4_bringBack : GoodIn wsX7_again (wsV RX7 272 RX4 yX4_bringBack wsX4_bringBack) := goodIn_app (goodIn_of _ (by decide +kernel)) ggX7_again_X4_bringBack
set_option maxRecDepth 20000 in
theorem ggX7_again_X0_clear : GoodIn wsX7_again wsX0_clear := goodIn_r _ [30, 31, 91, 92] (by decide +kernel) (by decide +kernel)
set_option maxRecDepth 20000 in
theorem gX7_again_X0_clear : GoodIn wsX7_again (wsV RX7 102 RX0 yX0_clear wsX0_clear) := goodIn_app (goodIn_of _ (by decide +kernel)) ggX7_again_X0_clear
set_option maxRecDepth 20000 in
theorem ggX7_again_X6_countNodes : GoodIn wsX7_again wsX6_countNodes := goodIn_r _ [36, 37, 38, 39, 40, 35, 41, 42, 43, 44, 45, 46, 47, 48, 49, 50, 51, 52, 19, 53, 21, 54, 55, 56, 57, 58, 59, 60, 61, 62, 63, 64, 65, 66, 67, 68, 69, 70, 71, 72, 73, 74, 75, 76, 93, 94, 95, 96, 97, 89, 90, 98, 99, 100, 101, 102, 103] (by decide +kernel) (by decide +kernel)
set_option maxRecDepth 20000 in
theorem gX7_again_X6_countNodes : GoodIn wsX7_again (wsV RX7 104 RX6 yX6_countNodes wsX6_countNodes) := goodIn_app (goodIn_of _ (by decide +kernel)) ggX7_again_X6_countNodes
theorem dX7_again_0 : decode cX7_again 0 = .ok (.aload_n 0, 1) := by decide +kernel
theorem dX7_again_1 : decode cX7_again 1 = .ok (.getfield 57, 3) := by decide +kernel
theorem dX7_again_4 : decode cX7_again 4 = .ok (.iload_n 1, 1) := by decide +kernel
theorem dX7_again_5 : decode cX7_again 5 = .ok (.invokevirtual 269, 3) := by decide +kernel
theorem dX7_again_8 : decode cX7_again 8 = .ok (.ifCond .ne 5, 3) := by decide +kernel
theorem dX7_again_11 : decode cX7_again 11 = .ok (.iconst (-1), 1) := by decide +kernel
theorem dX7_again_12 : decode cX7_again 12 = .ok (.ireturn, 1) := by decide +kernel
theorem dX7_again_13 : decode cX7_again 13 = .ok (.aload_n 0, 1) := by decide +kernel
theorem dX7_again_14 : decode cX7_again 14 = .ok (.getfield 57, 3) := by decide +kernel
theorem dX7_again_17 : decode cX7_again 17 = .ok (.iload_n 1, 1) := by decide +kernel
theorem dX7_again_18 : decode cX7_again 18 = .ok (.aload_n 0, 1) := by decide +kernel
theorem dX7_again_19 : decode cX7_again 19 = .ok (.getfield 28, 3) := by decide +kernel
theorem dX7_again_22 : decode cX7_again 22 = .ok (.invokevirtual 272, 3) := by decide +kernel
theorem dX7_again_25 : decode cX7_again 25 = .ok (.ifCond .ne 6, 3) := by decide +kernel
theorem dX7_again_28 : decode cX7_again 28 = .ok (.bipush (-3), 2) := by decide +kernel
theorem dX7_again_30 : decode cX7_again 30 = .ok (.ireturn, 1) := by decide +kernel
theorem dX7_again_31 : decode cX7_again 31 = .ok (.aload_n 0, 1) := by decide +kernel
theorem dX7_again_32 : decode cX7_again 32 = .ok (.getfield 50, 3) := by decide +kernel
theorem dX7_again_35 : decode cX7_again 35 = .ok (.invokevirtual 102, 3) := by decide +kernel
theorem dX7_again_38 : decode cX7_again 38 = .ok (.aload_n 0, 1) := by decide +kernel
theorem dX7_again_39 : decode cX7_again 39 = .ok (.getfield 37, 3) := by decide +kernel
theorem dX7_again_42 : decode cX7_again 42 = .ok (.invokevirtual 104, 3) := by decide +kernel
theorem dX7_again_45 : decode cX7_again 45 = .ok (.ireturn, 1) := by decide +kernel
theorem dX7_isShade_0 : decode cX7_isShade 0 = .ok (.iload_n 0, 1) := by decide +kernel
theorem dX7_isShade_1 : decode cX7_isShade 1 = .ok (.ifCond .lt 13, 3) := by decide +kernel
theorem dX7_isShade_4 : decode cX7_isShade 4 = .ok (.iload_n 0, 1) := by decide +kernel
theorem dX7_isShade_5 : decode cX7_isShade 5 = .ok (.bipush 9, 2) := by decide +kernel
theorem dX7_isShade_7 : decode cX7_isShade 7 = .ok (.if_icmp .gt 7, 3) := by decide +kernel
theorem dX7_isShade_10 : decode cX7_isShade 10 = .ok (.iconst 1, 1) := by decide +kernel
theorem dX7_isShade_11 : decode cX7_isShade 11 = .ok (.goto 4, 3) := by decide +kernel
theorem dX7_isShade_14 : decode cX7_isShade 14 = .ok (.iconst 0, 1) := by decide +kernel
theorem dX7_isShade_15 : decode cX7_isShade 15 = .ok (.ireturn, 1) := by decide +kernel
theorem dX7_isStep_0 : decode cX7_isStep 0 = .ok (.iload_n 0, 1) := by decide +kernel
theorem dX7_isStep_1 : decode cX7_isStep 1 = .ok (.iconst 1, 1) := by decide +kernel
theorem dX7_isStep_2 : decode cX7_isStep 2 = .ok (.if_icmp .lt 13, 3) := by decide +kernel
theorem dX7_isStep_5 : decode cX7_isStep 5 = .ok (.iload_n 0, 1) := by decide +kernel
theorem dX7_isStep_6 : decode cX7_isStep 6 = .ok (.bipush 9, 2) := by decide +kernel
theorem dX7_isStep_8 : decode cX7_isStep 8 = .ok (.if_icmp .gt 7, 3) := by decide +kernel
theorem dX7_isStep_11 : decode cX7_isStep 11 = .ok (.iconst 1, 1) := by decide +kernel
theorem dX7_isStep_12 : decode cX7_isStep 12 = .ok (.goto 4, 3) := by decide +kernel
theorem dX7_isStep_15 : decode cX7_isStep 15 = .ok (.iconst 0, 1) := by decide +kernel
theorem dX7_isStep_16 : decode cX7_isStep 16 = .ok (.ireturn, 1) := by decide +kernel
theorem dX7_isSieve_0 : decode cX7_isSieve 0 = .ok (.iload_n 0, 1) := by decide +kernel
theorem dX7_isSieve_1 : decode cX7_isSieve 1 = .ok (.ifCond .ne 20, 3) := by decide +kernel
theorem dX7_isSieve_4 : decode cX7_isSieve 4 = .ok (.iload_n 1, 1) := by decide +kernel
theorem dX7_isSieve_5 : decode cX7_isSieve 5 = .ok (.iconst 1, 1) := by decide +kernel
theorem dX7_isSieve_6 : decode cX7_isSieve 6 = .ok (.if_icmp .lt 13, 3) := by decide +kernel
theorem dX7_isSieve_9 : decode cX7_isSieve 9 = .ok (.iload_n 1, 1) := by decide +kernel
theorem dX7_isSieve_10 : decode cX7_isSieve 10 = .ok (.bipush 36, 2) := by decide +kernel
theorem dX7_isSieve_12 : decode cX7_isSieve 12 = .ok (.if_icmp .gt 7, 3) := by decide +kernel
theorem dX7_isSieve_15 : decode cX7_isSieve 15 = .ok (.iconst 1, 1) := by decide +kernel
theorem dX7_isSieve_16 : decode cX7_isSieve 16 = .ok (.goto 4, 3) := by decide +kernel
theorem dX7_isSieve_19 : decode cX7_isSieve 19 = .ok (.iconst 0, 1) := by decide +kernel
theorem dX7_isSieve_20 : decode cX7_isSieve 20 = .ok (.ireturn, 1) := by decide +kernel
theorem dX7_isSieve_21 : decode cX7_isSieve 21 = .ok (.iload_n 0, 1) := by decide +kernel
theorem dX7_isSieve_22 : decode cX7_isSieve 22 = .ok (.iconst 1, 1) := by decide +kernel
theorem dX7_isSieve_23 : decode cX7_isSieve 23 = .ok (.if_icmp .ne 18, 3) := by decide +kernel
theorem dX7_isSieve_26 : decode cX7_isSieve 26 = .ok (.iload_n 1, 1) := by decide +kernel
theorem dX7_isSieve_27 : decode cX7_isSieve 27 = .ok (.iconst 1, 1) := by decide +kernel
theorem dX7_isSieve_28 : decode cX7_isSieve 28 = .ok (.if_icmp .lt 13, 3) := by decide +kernel
theorem dX7_isSieve_31 : decode cX7_isSieve 31 = .ok (.iload_n 1, 1) := by decide +kernel
theorem dX7_isSieve_32 : decode cX7_isSieve 32 = .ok (.bipush 6, 2) := by decide +kernel
theorem dX7_isSieve_34 : decode cX7_isSieve 34 = .ok (.if_icmp .gt 7, 3) := by decide +kernel
theorem dX7_isSieve_37 : decode cX7_isSieve 37 = .ok (.iconst 1, 1) := by decide +kernel
theorem dX7_isSieve_38 : decode cX7_isSieve 38 = .ok (.goto 4, 3) := by decide +kernel
theorem dX7_isSieve_41 : decode cX7_isSieve 41 = .ok (.iconst 0, 1) := by decide +kernel
theorem dX7_isSieve_42 : decode cX7_isSieve 42 = .ok (.ireturn, 1) := by decide +kernel
theorem dX7_withoutLast_0 : decode cX7_withoutLast 0 = .ok (.lload_n 0, 1) := by decide +kernel
theorem dX7_withoutLast_1 : decode cX7_withoutLast 1 = .ok (.lstore_n 3, 1) := by decide +kernel
theorem dX7_withoutLast_2 : decode cX7_withoutLast 2 = .ok (.iconst 0, 1) := by decide +kernel
theorem dX7_withoutLast_3 : decode cX7_withoutLast 3 = .ok (.istore 5, 2) := by decide +kernel
theorem dX7_withoutLast_5 : decode cX7_withoutLast 5 = .ok (.iload 5, 2) := by decide +kernel
theorem dX7_withoutLast_7 : decode cX7_withoutLast 7 = .ok (.iload_n 2, 1) := by decide +kernel
theorem dX7_withoutLast_8 : decode cX7_withoutLast 8 = .ok (.if_icmp .ge 21, 3) := by decide +kernel
theorem dX7_withoutLast_11 : decode cX7_withoutLast 11 = .ok (.iload 5, 2) := by decide +kernel
theorem dX7_withoutLast_13 : decode cX7_withoutLast 13 = .ok (.iconst 4, 1) := by decide +kernel
theorem dX7_withoutLast_14 : decode cX7_withoutLast 14 = .ok (.if_icmp .ge 15, 3) := by decide +kernel
theorem dX7_withoutLast_17 : decode cX7_withoutLast 17 = .ok (.lload_n 3, 1) := by decide +kernel
theorem dX7_withoutLast_18 : decode cX7_withoutLast 18 = .ok (.ldc2_w 224, 3) := by decide +kernel
theorem dX7_withoutLast_21 : decode cX7_withoutLast 21 = .ok (.ldiv, 1) := by decide +kernel
theorem dX7_withoutLast_22 : decode cX7_withoutLast 22 = .ok (.lstore_n 3, 1) := by decide +kernel
theorem dX7_withoutLast_23 : decode cX7_withoutLast 23 = .ok (.iinc 5 1, 3) := by decide +kernel
theorem dX7_withoutLast_26 : decode cX7_withoutLast 26 = .ok (.goto (-21), 3) := by decide +kernel
theorem dX7_withoutLast_29 : decode cX7_withoutLast 29 = .ok (.lload_n 3, 1) := by decide +kernel
theorem dX7_withoutLast_30 : decode cX7_withoutLast 30 = .ok (.lreturn, 1) := by decide +kernel
set_option maxRecDepth 20000 in
theorem ggX7_comesTrue_X7_trialPainted : GoodIn wsX7_comesTrue wsX7_trialPainted := goodIn_r _ [8, 1, 3, 9, 10, 11, 12, 13, 14, 15, 16, 17, 18, 19, 20, 21, 22, 23, 24, 25, 26, 142, 143, 144, 145, 146, 147, 148, 149, 150, 151, 152, 153, 154, 155, 156, 157, 158, 159] (by decide +kernel) (by decide +kernel)
set_option maxRecDepth 20000 in
theorem gX7_comesTrue_X7_trialPainted : GoodIn wsX7_comesTrue (wsV RX7 275 RX7 yX7_trialPainted wsX7_trialPainted) := goodIn_app (goodIn_of _ (by decide +kernel)) ggX7_comesTrue_X7_trialPainted
set_option maxRecDepth 20000 in
theorem ggX7_comesTrue_X7_trialTurned : GoodIn wsX7_comesTrue wsX7_trialTurned := goodIn_r _ [30, 3, 31, 32, 33, 23, 34, 35, 26, 36, 37, 38, 12, 39, 40, 41, 42, 43, 44, 25, 45, 46, 47, 48, 142, 143, 144, 145, 146, 147, 148, 149, 150, 151, 158, 159, 152, 153, 154, 155, 156, 157] (by decide +kernel) (by decide +kernel)
set_option maxRecDepth 20000 in
theorem gX7_comesTrue_X7_trialTurned : GoodIn wsX7_comesTrue (wsV RX7 278 RX7 yX7_trialTurned wsX7_trialTurned) := goodIn_app (goodIn_of _ (by decide +kernel)) ggX7_comesTrue_X7_trialTurned
set_option maxRecDepth 20000 in
theorem ggX7_comesTrue_X7_trialThinned : GoodIn wsX7_comesTrue wsX7_trialThinned := goodIn_r _ [52, 3, 53, 54, 7, 55, 56, 57, 58, 23, 59, 25, 26, 60, 61, 62, 63, 35, 36, 37, 38, 12, 39, 40, 64, 65, 66, 67, 68, 69, 70, 71, 72, 73, 74, 75, 76, 77, 78, 79, 18, 80, 81, 82, 83, 84, 85, 86, 87, 88, 89, 90, 91, 92, 93, 94, 95, 96, 97, 98, 19, 99, 100, 101, 102, 142, 143, 144, 145, 146, 147, 148, 149, 150, 151, 158, 159, 152, 153, 154, 155, 156, 157] (by decide +kernel) (by decide +kernel)
set_option maxRecDepth 20000 in
theorem gX7_comesTrue_X7_trialThinned : GoodIn wsX7_comesTrue (wsV RX7 282 RX7 yX7_trialThinned wsX7_trialThinned) := goodIn_app (goodIn_of _ (by decide +kernel)) ggX7_comesTrue_X7_trialThinned
set_option maxRecDepth 20000 in
theorem ggX7_comesTrue_X1_hasDot : GoodIn wsX7_comesTrue wsX1_hasDot := goodIn_r _ [13, 14, 15, 16, 12, 17, 18, 19, 152, 153, 154, 155, 156, 157] (by decide +kernel) (by decide +kernel)
set_option maxRecDepth 20000 in
theorem gX7_comesTrue_X1_hasDot : GoodIn wsX7_comesTrue (wsV RX7 132 RX1 yX1_hasDot wsX1_hasDot) := goodIn_app (goodIn_of _ (by decide +kernel)) ggX7_comesTrue_X1_hasDot
set_option maxRecDepth 20000 in
theorem ggX7_comesTrue_X6_nodeOf : GoodIn wsX7_comesTrue wsX6_nodeOf := goodIn_r _ [107, 108, 109, 110, 10, 11, 12, 13, 14, 15, 16, 17, 18, 19, 111, 112, 113, 23, 114, 25, 115, 116, 117, 106, 118, 119, 42, 43, 44, 120, 65, 66, 67, 68, 121, 70, 71, 72, 73, 74, 75, 76, 77, 78, 79, 160, 161, 162, 163, 164, 152, 153, 154, 155, 156, 157, 158, 159] (by decide +kernel) (by decide +kernel)
set_option maxRecDepth 20000 in
theorem gX7_comesTrue_X6_nodeOf : GoodIn wsX7_comesTrue (wsV RX7 138 RX6 yX6_nodeOf wsX6_nodeOf) := goodIn_app (goodIn_of _ (by decide +kernel)) ggX7_comesTrue_X6_nodeOf
set_option maxRecDepth 20000 in
theorem ggX7_comesTrue_X2_of : GoodIn wsX7_comesTrue wsX2_of := goodIn_r _ [114, 25, 158, 159] (by decide +kernel) (by decide +kernel)
set_option maxRecDepth 20000 in
theorem gX7_comesTrue_X2_of : GoodIn wsX7_comesTrue (wsV RX7 135 RX2 yX2_of wsX2_of) := goodIn_app (goodIn_of _ (by decide +kernel)) ggX7_comesTrue_X2_of
set_option maxRecDepth 20000 in
theorem ggX7_comesTrue_X6_parentLevel : GoodIn wsX7_comesTrue wsX6_parentLevel := goodIn_r _ [126, 115, 116, 117, 106, 118, 108, 109, 119, 42, 43, 23, 44, 25, 120, 65, 66, 12, 67, 68, 121, 70, 71, 72, 73, 74, 75, 76, 77, 78, 79, 18, 160, 161, 162, 163, 164, 158, 159, 152, 153, 154, 155, 156, 157] (by decide +kernel) (by decide +kernel)
set_option maxRecDepth 20000 in
theorem gX7_comesTrue_X6_parentLevel : GoodIn wsX7_comesTrue (wsV RX7 285 RX6 yX6_parentLevel wsX6_parentLevel) := goodIn_app (goodIn_of _ (by decide +kernel)) ggX7_comesTrue_X6_parentLevel
set_option maxRecDepth 20000 in
theorem ggX7_comesTrue_X2_atLeast : GoodIn wsX7_comesTrue wsX2_atLeast := goodIn_r _ [44, 25, 158, 159] (by decide +kernel) (by decide +kernel)
set_option maxRecDepth 20000 in
theorem gX7_comesTrue_X2_atLeast : GoodIn wsX7_comesTrue (wsV RX7 174 RX2 yX2_atLeast wsX2_atLeast) := goodIn_app (goodIn_of _ (by decide +kernel)) ggX7_comesTrue_X2_atLeast
set_option maxRecDepth 20000 in
theorem ggX7_comesTrue_X1_way : GoodIn wsX7_comesTrue wsX1_way := goodIn_r _ [67, 68, 152, 153, 154, 155, 156, 157] (by decide +kernel) (by decide +kernel)
set_option maxRecDepth 20000 in
theorem gX7_comesTrue_X1_way : GoodIn wsX7_comesTrue (wsV RX7 107 RX1 yX1_way wsX1_way) := goodIn_app (goodIn_of _ (by decide +kernel)) ggX7_comesTrue_X1_way
set_option maxRecDepth 20000 in
theorem ggX7_comesTrue_X1_countParts : GoodIn wsX7_comesTrue wsX1_countParts := goodIn_r _ [132, 78, 133, 70, 71, 12, 72, 73, 74, 75, 76, 77, 79, 18, 152, 153, 154, 155, 156, 157] (by decide +kernel) (by decide +kernel)
set_option maxRecDepth 20000 in
theorem gX7_comesTrue_X1_countParts : GoodIn wsX7_comesTrue (wsV RX7 177 RX1 yX1_countParts wsX1_countParts) := goodIn_app (goodIn_of _ (by decide +kernel)) ggX7_comesTrue_X1_countParts
set_option maxRecDepth 20000 in
theorem ggX7_comesTrue_X6_rise : GoodIn wsX7_comesTrue wsX6_rise := goodIn_r _ [137, 109, 138, 139, 140, 23, 141, 41, 42, 43, 44, 25, 119, 115, 116, 117, 106, 118, 108, 120, 65, 66, 12, 67, 68, 121, 70, 71, 72, 73, 74, 75, 76, 77, 78, 79, 18, 160, 161, 162, 163, 164, 158, 159, 152, 153, 154, 155, 156, 157] (by decide +kernel) (by decide +kernel)
set_option maxRecDepth 20000 in
theorem gX7_comesTrue_X6_rise : GoodIn wsX7_comesTrue (wsV RX7 166 RX6 yX6_rise wsX6_rise) := goodIn_app (goodIn_of _ (by decide +kernel)) ggX7_comesTrue_X6_rise
theorem dX7_comesTrue_0 : decode cX7_comesTrue 0 = .ok (.iload_n 1, 1) := by decide +kernel
theorem dX7_comesTrue_1 : decode cX7_comesTrue 1 = .ok (.tableswitch 229 1 7 #[43, 50, 71, 90, 109, 153, 185], 43) := by decide +kernel
theorem dX7_comesTrue_44 : decode cX7_comesTrue 44 = .ok (.aload_n 0, 1) := by decide +kernel
theorem dX7_comesTrue_45 : decode cX7_comesTrue 45 = .ok (.iload_n 2, 1) := by decide +kernel
theorem dX7_comesTrue_46 : decode cX7_comesTrue 46 = .ok (.iload_n 3, 1) := by decide +kernel
theorem dX7_comesTrue_47 : decode cX7_comesTrue 47 = .ok (.invokevirtual 275, 3) := by decide +kernel
theorem dX7_comesTrue_50 : decode cX7_comesTrue 50 = .ok (.ireturn, 1) := by decide +kernel
theorem dX7_comesTrue_51 : decode cX7_comesTrue 51 = .ok (.iload_n 2, 1) := by decide +kernel
theorem dX7_comesTrue_52 : decode cX7_comesTrue 52 = .ok (.ifCond .ne 18, 3) := by decide +kernel
theorem dX7_comesTrue_55 : decode cX7_comesTrue 55 = .ok (.iload_n 3, 1) := by decide +kernel
theorem dX7_comesTrue_56 : decode cX7_comesTrue 56 = .ok (.ifCond .ne 14, 3) := by decide +kernel
theorem dX7_comesTrue_59 : decode cX7_comesTrue 59 = .ok (.aload_n 0, 1) := by decide +kernel
theorem dX7_comesTrue_60 : decode cX7_comesTrue 60 = .ok (.invokevirtual 278, 3) := by decide +kernel
theorem dX7_comesTrue_63 : decode cX7_comesTrue 63 = .ok (.ifCond .eq 7, 3) := by decide +kernel
theorem dX7_comesTrue_66 : decode cX7_comesTrue 66 = .ok (.iconst 1, 1) := by decide +kernel
theorem dX7_comesTrue_67 : decode cX7_comesTrue 67 = .ok (.goto 4, 3) := by decide +kernel
theorem dX7_comesTrue_70 : decode cX7_comesTrue 70 = .ok (.iconst 0, 1) := by decide +kernel
theorem dX7_comesTrue_71 : decode cX7_comesTrue 71 = .ok (.ireturn, 1) := by decide +kernel
theorem dX7_comesTrue_72 : decode cX7_comesTrue 72 = .ok (.iload_n 3, 1) := by decide +kernel
theorem dX7_comesTrue_73 : decode cX7_comesTrue 73 = .ok (.ifCond .ne 16, 3) := by decide +kernel
theorem dX7_comesTrue_76 : decode cX7_comesTrue 76 = .ok (.aload_n 0, 1) := by decide +kernel
theorem dX7_comesTrue_77 : decode cX7_comesTrue 77 = .ok (.iconst 0, 1) := by decide +kernel
theorem dX7_comesTrue_78 : decode cX7_comesTrue 78 = .ok (.iload_n 2, 1) := by decide +kernel
theorem dX7_comesTrue_79 : decode cX7_comesTrue 79 = .ok (.invokevirtual 282, 3) := by decide +kernel
theorem dX7_comesTrue_82 : decode cX7_comesTrue 82 = .ok (.ifCond .eq 7, 3) := by decide +kernel
theorem dX7_comesTrue_85 : decode cX7_comesTrue 85 = .ok (.iconst 1, 1) := by decide +kernel
theorem dX7_comesTrue_86 : decode cX7_comesTrue 86 = .ok (.goto 4, 3) := by decide +kernel
theorem dX7_comesTrue_89 : decode cX7_comesTrue 89 = .ok (.iconst 0, 1) := by decide +kernel
theorem dX7_comesTrue_90 : decode cX7_comesTrue 90 = .ok (.ireturn, 1) := by decide +kernel
theorem dX7_comesTrue_91 : decode cX7_comesTrue 91 = .ok (.iload_n 3, 1) := by decide +kernel
theorem dX7_comesTrue_92 : decode cX7_comesTrue 92 = .ok (.ifCond .ne 16, 3) := by decide +kernel
theorem dX7_comesTrue_95 : decode cX7_comesTrue 95 = .ok (.aload_n 0, 1) := by decide +kernel
theorem dX7_comesTrue_96 : decode cX7_comesTrue 96 = .ok (.iconst 1, 1) := by decide +kernel
theorem dX7_comesTrue_97 : decode cX7_comesTrue 97 = .ok (.iload_n 2, 1) := by decide +kernel
theorem dX7_comesTrue_98 : decode cX7_comesTrue 98 = .ok (.invokevirtual 282, 3) := by decide +kernel
theorem dX7_comesTrue_101 : decode cX7_comesTrue 101 = .ok (.ifCond .eq 7, 3) := by decide +kernel
theorem dX7_comesTrue_104 : decode cX7_comesTrue 104 = .ok (.iconst 1, 1) := by decide +kernel
theorem dX7_comesTrue_105 : decode cX7_comesTrue 105 = .ok (.goto 4, 3) := by decide +kernel
theorem dX7_comesTrue_108 : decode cX7_comesTrue 108 = .ok (.iconst 0, 1) := by decide +kernel
theorem dX7_comesTrue_109 : decode cX7_comesTrue 109 = .ok (.ireturn, 1) := by decide +kernel
theorem dX7_comesTrue_110 : decode cX7_comesTrue 110 = .ok (.aload_n 0, 1) := by decide +kernel
theorem dX7_comesTrue_111 : decode cX7_comesTrue 111 = .ok (.getfield 19, 3) := by decide +kernel
theorem dX7_comesTrue_114 : decode cX7_comesTrue 114 = .ok (.iload_n 2, 1) := by decide +kernel
theorem dX7_comesTrue_115 : decode cX7_comesTrue 115 = .ok (.invokevirtual 132, 3) := by decide +kernel
theorem dX7_comesTrue_118 : decode cX7_comesTrue 118 = .ok (.ifCond .eq 34, 3) := by decide +kernel
theorem dX7_comesTrue_121 : decode cX7_comesTrue 121 = .ok (.aload_n 0, 1) := by decide +kernel
theorem dX7_comesTrue_122 : decode cX7_comesTrue 122 = .ok (.getfield 44, 3) := by decide +kernel
theorem dX7_comesTrue_125 : decode cX7_comesTrue 125 = .ok (.aload_n 0, 1) := by decide +kernel
theorem dX7_comesTrue_126 : decode cX7_comesTrue 126 = .ok (.getfield 44, 3) := by decide +kernel
theorem dX7_comesTrue_129 : decode cX7_comesTrue 129 = .ok (.iload_n 2, 1) := by decide +kernel
theorem dX7_comesTrue_130 : decode cX7_comesTrue 130 = .ok (.invokevirtual 138, 3) := by decide +kernel
theorem dX7_comesTrue_133 : decode cX7_comesTrue 133 = .ok (.aload_n 0, 1) := by decide +kernel
theorem dX7_comesTrue_134 : decode cX7_comesTrue 134 = .ok (.getfield 41, 3) := by decide +kernel
theorem dX7_comesTrue_137 : decode cX7_comesTrue 137 = .ok (.iload_n 2, 1) := by decide +kernel
theorem dX7_comesTrue_138 : decode cX7_comesTrue 138 = .ok (.invokevirtual 135, 3) := by decide +kernel
theorem dX7_comesTrue_141 : decode cX7_comesTrue 141 = .ok (.invokevirtual 285, 3) := by decide +kernel
theorem dX7_comesTrue_144 : decode cX7_comesTrue 144 = .ok (.iload_n 3, 1) := by decide +kernel
theorem dX7_comesTrue_145 : decode cX7_comesTrue 145 = .ok (.if_icmp .ne 7, 3) := by decide +kernel
theorem dX7_comesTrue_148 : decode cX7_comesTrue 148 = .ok (.iconst 1, 1) := by decide +kernel
theorem dX7_comesTrue_149 : decode cX7_comesTrue 149 = .ok (.goto 4, 3) := by decide +kernel
theorem dX7_comesTrue_152 : decode cX7_comesTrue 152 = .ok (.iconst 0, 1) := by decide +kernel
theorem dX7_comesTrue_153 : decode cX7_comesTrue 153 = .ok (.ireturn, 1) := by decide +kernel
theorem dX7_comesTrue_154 : decode cX7_comesTrue 154 = .ok (.aload_n 0, 1) := by decide +kernel
theorem dX7_comesTrue_155 : decode cX7_comesTrue 155 = .ok (.getfield 19, 3) := by decide +kernel
theorem dX7_comesTrue_158 : decode cX7_comesTrue 158 = .ok (.aload_n 0, 1) := by decide +kernel
theorem dX7_comesTrue_159 : decode cX7_comesTrue 159 = .ok (.getfield 41, 3) := by decide +kernel
theorem dX7_comesTrue_162 : decode cX7_comesTrue 162 = .ok (.iload_n 3, 1) := by decide +kernel
theorem dX7_comesTrue_163 : decode cX7_comesTrue 163 = .ok (.invokevirtual 174, 3) := by decide +kernel
theorem dX7_comesTrue_166 : decode cX7_comesTrue 166 = .ok (.aload_n 0, 1) := by decide +kernel
theorem dX7_comesTrue_167 : decode cX7_comesTrue 167 = .ok (.getfield 19, 3) := by decide +kernel
theorem dX7_comesTrue_170 : decode cX7_comesTrue 170 = .ok (.invokevirtual 107, 3) := by decide +kernel
theorem dX7_comesTrue_173 : decode cX7_comesTrue 173 = .ok (.invokevirtual 177, 3) := by decide +kernel
theorem dX7_comesTrue_176 : decode cX7_comesTrue 176 = .ok (.iload_n 2, 1) := by decide +kernel
theorem dX7_comesTrue_177 : decode cX7_comesTrue 177 = .ok (.if_icmp .lt 7, 3) := by decide +kernel
theorem dX7_comesTrue_180 : decode cX7_comesTrue 180 = .ok (.iconst 1, 1) := by decide +kernel
theorem dX7_comesTrue_181 : decode cX7_comesTrue 181 = .ok (.goto 4, 3) := by decide +kernel
theorem dX7_comesTrue_184 : decode cX7_comesTrue 184 = .ok (.iconst 0, 1) := by decide +kernel
theorem dX7_comesTrue_185 : decode cX7_comesTrue 185 = .ok (.ireturn, 1) := by decide +kernel
theorem dX7_comesTrue_186 : decode cX7_comesTrue 186 = .ok (.aload_n 0, 1) := by decide +kernel
theorem dX7_comesTrue_187 : decode cX7_comesTrue 187 = .ok (.getfield 19, 3) := by decide +kernel
theorem dX7_comesTrue_190 : decode cX7_comesTrue 190 = .ok (.iload_n 2, 1) := by decide +kernel
theorem dX7_comesTrue_191 : decode cX7_comesTrue 191 = .ok (.invokevirtual 132, 3) := by decide +kernel
theorem dX7_comesTrue_194 : decode cX7_comesTrue 194 = .ok (.ifCond .eq 34, 3) := by decide +kernel
theorem dX7_comesTrue_197 : decode cX7_comesTrue 197 = .ok (.aload_n 0, 1) := by decide +kernel
theorem dX7_comesTrue_198 : decode cX7_comesTrue 198 = .ok (.getfield 44, 3) := by decide +kernel
theorem dX7_comesTrue_201 : decode cX7_comesTrue 201 = .ok (.aload_n 0, 1) := by decide +kernel
theorem dX7_comesTrue_202 : decode cX7_comesTrue 202 = .ok (.getfield 44, 3) := by decide +kernel
theorem dX7_comesTrue_205 : decode cX7_comesTrue 205 = .ok (.iload_n 2, 1) := by decide +kernel
theorem dX7_comesTrue_206 : decode cX7_comesTrue 206 = .ok (.invokevirtual 138, 3) := by decide +kernel
theorem dX7_comesTrue_209 : decode cX7_comesTrue 209 = .ok (.aload_n 0, 1) := by decide +kernel
theorem dX7_comesTrue_210 : decode cX7_comesTrue 210 = .ok (.getfield 41, 3) := by decide +kernel
theorem dX7_comesTrue_213 : decode cX7_comesTrue 213 = .ok (.iload_n 2, 1) := by decide +kernel
theorem dX7_comesTrue_214 : decode cX7_comesTrue 214 = .ok (.invokevirtual 135, 3) := by decide +kernel
theorem dX7_comesTrue_217 : decode cX7_comesTrue 217 = .ok (.invokevirtual 166, 3) := by decide +kernel
theorem dX7_comesTrue_220 : decode cX7_comesTrue 220 = .ok (.iload_n 3, 1) := by decide +kernel
theorem dX7_comesTrue_221 : decode cX7_comesTrue 221 = .ok (.if_icmp .ne 7, 3) := by decide +kernel
theorem dX7_comesTrue_224 : decode cX7_comesTrue 224 = .ok (.iconst 1, 1) := by decide +kernel
theorem dX7_comesTrue_225 : decode cX7_comesTrue 225 = .ok (.goto 4, 3) := by decide +kernel
theorem dX7_comesTrue_228 : decode cX7_comesTrue 228 = .ok (.iconst 0, 1) := by decide +kernel
theorem dX7_comesTrue_229 : decode cX7_comesTrue 229 = .ok (.ireturn, 1) := by decide +kernel
theorem dX7_comesTrue_230 : decode cX7_comesTrue 230 = .ok (.iconst 0, 1) := by decide +kernel
theorem dX7_comesTrue_231 : decode cX7_comesTrue 231 = .ok (.ireturn, 1) := by decide +kernel
set_option maxRecDepth 20000 in
theorem ggX7_trialPainted_X1_hasDot : GoodIn wsX7_trialPainted wsX1_hasDot := goodIn_r _ [7, 8, 9, 10, 6, 11, 12, 13, 31, 32, 33, 34, 35, 36] (by decide +kernel) (by decide +kernel)
set_option maxRecDepth 20000 in
theorem gX7_trialPainted_X1_hasDot : GoodIn wsX7_trialPainted (wsV RX7 132 RX1 yX1_hasDot wsX1_hasDot) := goodIn_app (goodIn_of _ (by decide +kernel)) ggX7_trialPainted_X1_hasDot
set_option maxRecDepth 20000 in
theorem ggX7_trialPainted_X2_set : GoodIn wsX7_trialPainted wsX2_set := goodIn_r _ [18, 19, 20, 37, 38] (by decide +kernel) (by decide +kernel)
set_option maxRecDepth 20000 in
theorem gX7_trialPainted_X2_set : GoodIn wsX7_trialPainted (wsV RX7 98 RX2 yX2_set wsX2_set) := goodIn_app (goodIn_of _ (by decide +kernel)) ggX7_trialPainted_X2_set
theorem dX7_trialPainted_0 : decode cX7_trialPainted 0 = .ok (.aload_n 0, 1) := by decide +kernel
theorem dX7_trialPainted_1 : decode cX7_trialPainted 1 = .ok (.getfield 19, 3) := by decide +kernel
theorem dX7_trialPainted_4 : decode cX7_trialPainted 4 = .ok (.iload_n 1, 1) := by decide +kernel
theorem dX7_trialPainted_5 : decode cX7_trialPainted 5 = .ok (.invokevirtual 132, 3) := by decide +kernel
theorem dX7_trialPainted_8 : decode cX7_trialPainted 8 = .ok (.ifCond .ne 5, 3) := by decide +kernel
theorem dX7_trialPainted_11 : decode cX7_trialPainted 11 = .ok (.iconst 0, 1) := by decide +kernel
theorem dX7_trialPainted_12 : decode cX7_trialPainted 12 = .ok (.ireturn, 1) := by decide +kernel
theorem dX7_trialPainted_13 : decode cX7_trialPainted 13 = .ok (.aload_n 0, 1) := by decide +kernel
theorem dX7_trialPainted_14 : decode cX7_trialPainted 14 = .ok (.getfield 41, 3) := by decide +kernel
theorem dX7_trialPainted_17 : decode cX7_trialPainted 17 = .ok (.iload_n 1, 1) := by decide +kernel
theorem dX7_trialPainted_18 : decode cX7_trialPainted 18 = .ok (.iload_n 2, 1) := by decide +kernel
theorem dX7_trialPainted_19 : decode cX7_trialPainted 19 = .ok (.invokevirtual 98, 3) := by decide +kernel
theorem dX7_trialPainted_22 : decode cX7_trialPainted 22 = .ok (.iconst 1, 1) := by decide +kernel
theorem dX7_trialPainted_23 : decode cX7_trialPainted 23 = .ok (.ireturn, 1) := by decide +kernel
set_option maxRecDepth 20000 in
theorem ggX7_trialTurned_X2_turn : GoodIn wsX7_trialTurned wsX2_turn := goodIn_r _ [6, 7, 8, 9, 10, 11, 12, 13, 14, 15, 16, 17, 5, 18, 19, 20, 21, 22, 23, 34, 35, 36, 37, 38, 39, 40, 41] (by decide +kernel) (by decide +kernel)
set_option maxRecDepth 20000 in
theorem gX7_trialTurned_X2_turn : GoodIn wsX7_trialTurned (wsV RX7 183 RX2 yX2_turn wsX2_turn) := goodIn_app (goodIn_of _ (by decide +kernel)) ggX7_trialTurned_X2_turn
theorem dX7_trialTurned_0 : decode cX7_trialTurned 0 = .ok (.aload_n 0, 1) := by decide +kernel
theorem dX7_trialTurned_1 : decode cX7_trialTurned 1 = .ok (.getfield 41, 3) := by decide +kernel
theorem dX7_trialTurned_4 : decode cX7_trialTurned 4 = .ok (.invokevirtual 183, 3) := by decide +kernel
theorem dX7_trialTurned_7 : decode cX7_trialTurned 7 = .ok (.iconst 1, 1) := by decide +kernel
theorem dX7_trialTurned_8 : decode cX7_trialTurned 8 = .ok (.ireturn, 1) := by decide +kernel
set_option maxRecDepth 20000 in
theorem ggX7_trialThinned_X7_isSieve : GoodIn wsX7_trialThinned wsX7_isSieve := goodIn_r _ [5] (by decide +kernel) (by decide +kernel)
set_option maxRecDepth 20000 in
theorem gX7_trialThinned_X7_isSieve : GoodIn wsX7_trialThinned (va_wsS RX7 186 yX7_isSieve wsX7_isSieve) := goodIn_app (goodIn_of _ (by decide +kernel)) ggX7_trialThinned_X7_isSieve
set_option maxRecDepth 20000 in
theorem ggX7_trialThinned_X2_thin : GoodIn wsX7_trialThinned wsX2_thin := goodIn_r _ [10, 11, 12, 13, 14, 15, 9, 16, 17, 18, 19, 20, 21, 22, 23, 24, 25, 26, 27, 28, 29, 30, 31, 32, 33, 34, 35, 36, 37, 38, 39, 40, 41, 42, 43, 44, 45, 46, 47, 48, 49, 50, 51, 52, 53, 54, 55, 56, 57, 58, 59, 60, 61, 62, 63, 64, 75, 76, 77, 78, 79, 80, 81, 82] (by decide +kernel) (by decide +kernel)
set_option maxRecDepth 20000 in
theorem gX7_trialThinned_X2_thin : GoodIn wsX7_trialThinned (wsV RX7 190 RX2 yX2_thin wsX2_thin) := goodIn_app (goodIn_of _ (by decide +kernel)) ggX7_trialThinned_X2_thin
theorem dX7_trialThinned_0 : decode cX7_trialThinned 0 = .ok (.iload_n 1, 1) := by decide +kernel
theorem dX7_trialThinned_1 : decode cX7_trialThinned 1 = .ok (.iload_n 2, 1) := by decide +kernel
theorem dX7_trialThinned_2 : decode cX7_trialThinned 2 = .ok (.invokestatic 186, 3) := by decide +kernel
theorem dX7_trialThinned_5 : decode cX7_trialThinned 5 = .ok (.ifCond .ne 5, 3) := by decide +kernel
theorem dX7_trialThinned_8 : decode cX7_trialThinned 8 = .ok (.iconst 0, 1) := by decide +kernel
theorem dX7_trialThinned_9 : decode cX7_trialThinned 9 = .ok (.ireturn, 1) := by decide +kernel
theorem dX7_trialThinned_10 : decode cX7_trialThinned 10 = .ok (.aload_n 0, 1) := by decide +kernel
theorem dX7_trialThinned_11 : decode cX7_trialThinned 11 = .ok (.getfield 41, 3) := by decide +kernel
theorem dX7_trialThinned_14 : decode cX7_trialThinned 14 = .ok (.iload_n 1, 1) := by decide +kernel
theorem dX7_trialThinned_15 : decode cX7_trialThinned 15 = .ok (.iload_n 2, 1) := by decide +kernel
theorem dX7_trialThinned_16 : decode cX7_trialThinned 16 = .ok (.invokevirtual 190, 3) := by decide +kernel
theorem dX7_trialThinned_19 : decode cX7_trialThinned 19 = .ok (.pop, 1) := by decide +kernel
theorem dX7_trialThinned_20 : decode cX7_trialThinned 20 = .ok (.iconst 1, 1) := by decide +kernel
theorem dX7_trialThinned_21 : decode cX7_trialThinned 21 = .ok (.ireturn, 1) := by decide +kernel
set_option maxRecDepth 20000 in
theorem ggX7_change_X1_size : GoodIn wsX7_change wsX1_size := goodIn_r _ [9, 10, 11, 94, 95, 96, 97, 98, 99] (by decide +kernel) (by decide +kernel)
set_option maxRecDepth 20000 in
theorem gX7_change_X1_size : GoodIn wsX7_change (wsV RX7 97 RX1 yX1_size wsX1_size) := goodIn_app (goodIn_of _ (by decide +kernel)) ggX7_change_X1_size
set_option maxRecDepth 20000 in
theorem ggX7_change_X2_set : GoodIn wsX7_change wsX2_set := goodIn_r _ [16, 17, 18, 100, 101] (by decide +kernel) (by decide +kernel)
set_option maxRecDepth 20000 in
theorem gX7_change_X2_set : GoodIn wsX7_change (wsV RX7 98 RX2 yX2_set wsX2_set) := goodIn_app (goodIn_of _ (by decide +kernel)) ggX7_change_X2_set
set_option maxRecDepth 20000 in
theorem ggX7_change_X2_turn : GoodIn wsX7_change wsX2_turn := goodIn_r _ [22, 23, 18, 24, 25, 26, 8, 27, 28, 29, 30, 31, 15, 32, 17, 33, 34, 35, 36, 100, 101, 94, 95, 96, 97, 98, 99] (by decide +kernel) (by decide +kernel)
set_option maxRecDepth 20000 in
theorem gX7_change_X2_turn : GoodIn wsX7_change (wsV RX7 183 RX2 yX2_turn wsX2_turn) := goodIn_app (goodIn_of _ (by decide +kernel)) ggX7_change_X2_turn
set_option maxRecDepth 20000 in
theorem ggX7_change_X2_thin : GoodIn wsX7_change wsX2_thin := goodIn_r _ [40, 17, 18, 41, 42, 43, 15, 44, 23, 24, 25, 26, 8, 27, 28, 45, 46, 47, 48, 49, 50, 51, 52, 53, 54, 55, 56, 57, 58, 59, 60, 10, 61, 62, 63, 64, 65, 66, 67, 68, 69, 70, 71, 72, 73, 74, 75, 76, 77, 78, 79, 11, 80, 81, 82, 83, 100, 101, 94, 95, 96, 97, 98, 99] (by decide +kernel) (by decide +kernel)
set_option maxRecDepth 20000 in
theorem gX7_change_X2_thin : GoodIn wsX7_change (wsV RX7 190 RX2 yX2_thin wsX2_thin) := goodIn_app (goodIn_of _ (by decide +kernel)) ggX7_change_X2_thin
theorem dX7_change_0 : decode cX7_change 0 = .ok (.aload_n 0, 1) := by decide +kernel
theorem dX7_change_1 : decode cX7_change 1 = .ok (.getfield 19, 3) := by decide +kernel
theorem dX7_change_4 : decode cX7_change 4 = .ok (.invokevirtual 97, 3) := by decide +kernel
theorem dX7_change_7 : decode cX7_change 7 = .ok (.istore_n 3, 1) := by decide +kernel
theorem dX7_change_8 : decode cX7_change 8 = .ok (.iload_n 3, 1) := by decide +kernel
theorem dX7_change_9 : decode cX7_change 9 = .ok (.iconst 1, 1) := by decide +kernel
theorem dX7_change_10 : decode cX7_change 10 = .ok (.if_icmp .ge 4, 3) := by decide +kernel
theorem dX7_change_13 : decode cX7_change 13 = .ok (.return_, 1) := by decide +kernel
theorem dX7_change_14 : decode cX7_change 14 = .ok (.lload_n 1, 1) := by decide +kernel
theorem dX7_change_15 : decode cX7_change 15 = .ok (.iload_n 3, 1) := by decide +kernel
theorem dX7_change_16 : decode cX7_change 16 = .ok (.i2l, 1) := by decide +kernel
theorem dX7_change_17 : decode cX7_change 17 = .ok (.lrem, 1) := by decide +kernel
theorem dX7_change_18 : decode cX7_change 18 = .ok (.l2i, 1) := by decide +kernel
theorem dX7_change_19 : decode cX7_change 19 = .ok (.istore 4, 2) := by decide +kernel
theorem dX7_change_21 : decode cX7_change 21 = .ok (.lload_n 1, 1) := by decide +kernel
theorem dX7_change_22 : decode cX7_change 22 = .ok (.ldc2_w 288, 3) := by decide +kernel
theorem dX7_change_25 : decode cX7_change 25 = .ok (.ldiv, 1) := by decide +kernel
theorem dX7_change_26 : decode cX7_change 26 = .ok (.ldc2_w 290, 3) := by decide +kernel
theorem dX7_change_29 : decode cX7_change 29 = .ok (.lrem, 1) := by decide +kernel
theorem dX7_change_30 : decode cX7_change 30 = .ok (.l2i, 1) := by decide +kernel
theorem dX7_change_31 : decode cX7_change 31 = .ok (.istore 5, 2) := by decide +kernel
theorem dX7_change_33 : decode cX7_change 33 = .ok (.iload 5, 2) := by decide +kernel
theorem dX7_change_35 : decode cX7_change 35 = .ok (.bipush 9, 2) := by decide +kernel
theorem dX7_change_37 : decode cX7_change 37 = .ok (.if_icmp .gt 17, 3) := by decide +kernel
theorem dX7_change_40 : decode cX7_change 40 = .ok (.aload_n 0, 1) := by decide +kernel
theorem dX7_change_41 : decode cX7_change 41 = .ok (.getfield 41, 3) := by decide +kernel
theorem dX7_change_44 : decode cX7_change 44 = .ok (.iload 4, 2) := by decide +kernel
theorem dX7_change_46 : decode cX7_change 46 = .ok (.iload 5, 2) := by decide +kernel
theorem dX7_change_48 : decode cX7_change 48 = .ok (.invokevirtual 98, 3) := by decide +kernel
theorem dX7_change_51 : decode cX7_change 51 = .ok (.goto 30, 3) := by decide +kernel
theorem dX7_change_54 : decode cX7_change 54 = .ok (.iload 5, 2) := by decide +kernel
theorem dX7_change_56 : decode cX7_change 56 = .ok (.bipush 10, 2) := by decide +kernel
theorem dX7_change_58 : decode cX7_change 58 = .ok (.if_icmp .ne 13, 3) := by decide +kernel
theorem dX7_change_61 : decode cX7_change 61 = .ok (.aload_n 0, 1) := by decide +kernel
theorem dX7_change_62 : decode cX7_change 62 = .ok (.getfield 41, 3) := by decide +kernel
theorem dX7_change_65 : decode cX7_change 65 = .ok (.invokevirtual 183, 3) := by decide +kernel
theorem dX7_change_68 : decode cX7_change 68 = .ok (.goto 13, 3) := by decide +kernel
theorem dX7_change_71 : decode cX7_change 71 = .ok (.aload_n 0, 1) := by decide +kernel
theorem dX7_change_72 : decode cX7_change 72 = .ok (.getfield 41, 3) := by decide +kernel
theorem dX7_change_75 : decode cX7_change 75 = .ok (.iconst 0, 1) := by decide +kernel
theorem dX7_change_76 : decode cX7_change 76 = .ok (.iconst 2, 1) := by decide +kernel
theorem dX7_change_77 : decode cX7_change 77 = .ok (.invokevirtual 190, 3) := by decide +kernel
theorem dX7_change_80 : decode cX7_change 80 = .ok (.pop, 1) := by decide +kernel
theorem dX7_change_81 : decode cX7_change 81 = .ok (.return_, 1) := by decide +kernel
set_option maxRecDepth 20000 in
theorem ggX7_sharedOut_X1_high : GoodIn wsX7_sharedOut wsX1_high := goodIn_r _ [6, 7, 62, 63, 64, 65, 66, 67] (by decide +kernel) (by decide +kernel)
set_option maxRecDepth 20000 in
theorem gX7_sharedOut_X1_high : GoodIn wsX7_sharedOut (wsV RX7 113 RX1 yX1_high wsX1_high) := goodIn_app (goodIn_of _ (by decide +kernel)) ggX7_sharedOut_X1_high
set_option maxRecDepth 20000 in
theorem ggX7_sharedOut_J6_bitCount_0f7a4 : GoodIn wsX7_sharedOut wsJ6_bitCount_0f7a4 := goodIn_r _ [11, 12, 13, 14] (by decide +kernel) (by decide +kernel)
set_option maxRecDepth 20000 in
theorem gX7_sharedOut_J6_bitCount_0f7a4 : GoodIn wsX7_sharedOut (va_wsS RX7 292 yJ6_bitCount_0f7a4 wsJ6_bitCount_0f7a4) := goodIn_app (goodIn_of _ (by decide +kernel)) ggX7_sharedOut_J6_bitCount_0f7a4
set_option maxRecDepth 20000 in
theorem ggX7_sharedOut_X7_factorial : GoodIn wsX7_sharedOut wsX7_factorial := goodIn_r _ [18] (by decide +kernel) (by decide +kernel)
set_option maxRecDepth 20000 in
theorem gX7_sharedOut_X7_factorial : GoodIn wsX7_sharedOut (va_wsS RX7 236 yX7_factorial wsX7_factorial) := goodIn_app (goodIn_of _ (by decide +kernel)) ggX7_sharedOut_X7_factorial
set_option maxRecDepth 20000 in
theorem ggX7_sharedOut_X7_partsOfRows : GoodIn wsX7_sharedOut wsX7_partsOfRows := goodIn_r _ [22, 1, 23, 24, 25, 5, 26, 7, 27, 28, 29, 30, 31, 32, 33, 34, 35, 36, 37, 38, 39, 40, 41, 42, 43, 44, 45, 46, 47, 48, 49, 50, 51, 52, 53, 54, 55, 56, 57, 58, 59, 60, 61, 62, 63, 64, 65, 66, 67] (by decide +kernel) (by decide +kernel)
set_option maxRecDepth 20000 in
theorem gX7_sharedOut_X7_partsOfRows : GoodIn wsX7_sharedOut (wsV RX7 296 RX7 yX7_partsOfRows wsX7_partsOfRows) := goodIn_app (goodIn_of _ (by decide +kernel)) ggX7_sharedOut_X7_partsOfRows
theorem dX7_sharedOut_0 : decode cX7_sharedOut 0 = .ok (.aload_n 0, 1) := by decide +kernel
theorem dX7_sharedOut_1 : decode cX7_sharedOut 1 = .ok (.getfield 19, 3) := by decide +kernel
theorem dX7_sharedOut_4 : decode cX7_sharedOut 4 = .ok (.invokevirtual 113, 3) := by decide +kernel
theorem dX7_sharedOut_7 : decode cX7_sharedOut 7 = .ok (.istore 4, 2) := by decide +kernel
theorem dX7_sharedOut_9 : decode cX7_sharedOut 9 = .ok (.iconst 0, 1) := by decide +kernel
theorem dX7_sharedOut_10 : decode cX7_sharedOut 10 = .ok (.istore 5, 2) := by decide +kernel
theorem dX7_sharedOut_12 : decode cX7_sharedOut 12 = .ok (.iconst 0, 1) := by decide +kernel
theorem dX7_sharedOut_13 : decode cX7_sharedOut 13 = .ok (.istore 6, 2) := by decide +kernel
theorem dX7_sharedOut_15 : decode cX7_sharedOut 15 = .ok (.iload 6, 2) := by decide +kernel
theorem dX7_sharedOut_17 : decode cX7_sharedOut 17 = .ok (.iconst 1, 1) := by decide +kernel
theorem dX7_sharedOut_18 : decode cX7_sharedOut 18 = .ok (.iload 4, 2) := by decide +kernel
theorem dX7_sharedOut_20 : decode cX7_sharedOut 20 = .ok (.ishl, 1) := by decide +kernel
theorem dX7_sharedOut_21 : decode cX7_sharedOut 21 = .ok (.if_icmp .ge 74, 3) := by decide +kernel
theorem dX7_sharedOut_24 : decode cX7_sharedOut 24 = .ok (.iload 6, 2) := by decide +kernel
theorem dX7_sharedOut_26 : decode cX7_sharedOut 26 = .ok (.iload_n 3, 1) := by decide +kernel
theorem dX7_sharedOut_27 : decode cX7_sharedOut 27 = .ok (.ishr, 1) := by decide +kernel
theorem dX7_sharedOut_28 : decode cX7_sharedOut 28 = .ok (.iconst 1, 1) := by decide +kernel
theorem dX7_sharedOut_29 : decode cX7_sharedOut 29 = .ok (.iand, 1) := by decide +kernel
theorem dX7_sharedOut_30 : decode cX7_sharedOut 30 = .ok (.ifCond .ne 59, 3) := by decide +kernel
theorem dX7_sharedOut_33 : decode cX7_sharedOut 33 = .ok (.iload 6, 2) := by decide +kernel
theorem dX7_sharedOut_35 : decode cX7_sharedOut 35 = .ok (.invokestatic 292, 3) := by decide +kernel
theorem dX7_sharedOut_38 : decode cX7_sharedOut 38 = .ok (.istore 7, 2) := by decide +kernel
theorem dX7_sharedOut_40 : decode cX7_sharedOut 40 = .ok (.iload 7, 2) := by decide +kernel
theorem dX7_sharedOut_42 : decode cX7_sharedOut 42 = .ok (.invokestatic 236, 3) := by decide +kernel
theorem dX7_sharedOut_45 : decode cX7_sharedOut 45 = .ok (.iload 4, 2) := by decide +kernel
theorem dX7_sharedOut_47 : decode cX7_sharedOut 47 = .ok (.iconst 1, 1) := by decide +kernel
theorem dX7_sharedOut_48 : decode cX7_sharedOut 48 = .ok (.isub, 1) := by decide +kernel
theorem dX7_sharedOut_49 : decode cX7_sharedOut 49 = .ok (.iload 7, 2) := by decide +kernel
theorem dX7_sharedOut_51 : decode cX7_sharedOut 51 = .ok (.isub, 1) := by decide +kernel
theorem dX7_sharedOut_52 : decode cX7_sharedOut 52 = .ok (.invokestatic 236, 3) := by decide +kernel
theorem dX7_sharedOut_55 : decode cX7_sharedOut 55 = .ok (.imul, 1) := by decide +kernel
theorem dX7_sharedOut_56 : decode cX7_sharedOut 56 = .ok (.istore 8, 2) := by decide +kernel
theorem dX7_sharedOut_58 : decode cX7_sharedOut 58 = .ok (.aload_n 0, 1) := by decide +kernel
theorem dX7_sharedOut_59 : decode cX7_sharedOut 59 = .ok (.lload_n 1, 1) := by decide +kernel
theorem dX7_sharedOut_60 : decode cX7_sharedOut 60 = .ok (.iload 6, 2) := by decide +kernel
theorem dX7_sharedOut_62 : decode cX7_sharedOut 62 = .ok (.iconst 1, 1) := by decide +kernel
theorem dX7_sharedOut_63 : decode cX7_sharedOut 63 = .ok (.iload_n 3, 1) := by decide +kernel
theorem dX7_sharedOut_64 : decode cX7_sharedOut 64 = .ok (.ishl, 1) := by decide +kernel
theorem dX7_sharedOut_65 : decode cX7_sharedOut 65 = .ok (.ior, 1) := by decide +kernel
theorem dX7_sharedOut_66 : decode cX7_sharedOut 66 = .ok (.invokevirtual 296, 3) := by decide +kernel
theorem dX7_sharedOut_69 : decode cX7_sharedOut 69 = .ok (.aload_n 0, 1) := by decide +kernel
theorem dX7_sharedOut_70 : decode cX7_sharedOut 70 = .ok (.lload_n 1, 1) := by decide +kernel
theorem dX7_sharedOut_71 : decode cX7_sharedOut 71 = .ok (.iload 6, 2) := by decide +kernel
theorem dX7_sharedOut_73 : decode cX7_sharedOut 73 = .ok (.invokevirtual 296, 3) := by decide +kernel
theorem dX7_sharedOut_76 : decode cX7_sharedOut 76 = .ok (.isub, 1) := by decide +kernel
theorem dX7_sharedOut_77 : decode cX7_sharedOut 77 = .ok (.istore 9, 2) := by decide +kernel
theorem dX7_sharedOut_79 : decode cX7_sharedOut 79 = .ok (.iload 5, 2) := by decide +kernel
theorem dX7_sharedOut_81 : decode cX7_sharedOut 81 = .ok (.iload 8, 2) := by decide +kernel
theorem dX7_sharedOut_83 : decode cX7_sharedOut 83 = .ok (.iload 9, 2) := by decide +kernel
theorem dX7_sharedOut_85 : decode cX7_sharedOut 85 = .ok (.imul, 1) := by decide +kernel
theorem dX7_sharedOut_86 : decode cX7_sharedOut 86 = .ok (.iadd, 1) := by decide +kernel
theorem dX7_sharedOut_87 : decode cX7_sharedOut 87 = .ok (.istore 5, 2) := by decide +kernel
theorem dX7_sharedOut_89 : decode cX7_sharedOut 89 = .ok (.iinc 6 1, 3) := by decide +kernel
theorem dX7_sharedOut_92 : decode cX7_sharedOut 92 = .ok (.goto (-77), 3) := by decide +kernel
theorem dX7_sharedOut_95 : decode cX7_sharedOut 95 = .ok (.iload 5, 2) := by decide +kernel
theorem dX7_sharedOut_97 : decode cX7_sharedOut 97 = .ok (.ireturn, 1) := by decide +kernel
set_option maxRecDepth 20000 in
theorem ggX7_partsOfRows_X1_rows : GoodIn wsX7_partsOfRows wsX1_rows := goodIn_r _ [6, 7, 8, 9, 10, 5, 11, 12, 43, 44, 45, 46, 47, 48] (by decide +kernel) (by decide +kernel)
set_option maxRecDepth 20000 in
theorem gX7_partsOfRows_X1_rows : GoodIn wsX7_partsOfRows (wsV RX7 299 RX1 yX1_rows wsX1_rows) := goodIn_app (goodIn_of _ (by decide +kernel)) ggX7_partsOfRows_X1_rows
set_option maxRecDepth 20000 in
theorem ggX7_partsOfRows_X1_way : GoodIn wsX7_partsOfRows wsX1_way := goodIn_r _ [16, 17, 43, 44, 45, 46, 47, 48] (by decide +kernel) (by decide +kernel)
set_option maxRecDepth 20000 in
theorem gX7_partsOfRows_X1_way : GoodIn wsX7_partsOfRows (wsV RX7 107 RX1 yX1_way wsX1_way) := goodIn_app (goodIn_of _ (by decide +kernel)) ggX7_partsOfRows_X1_way
set_option maxRecDepth 20000 in
theorem ggX7_partsOfRows_X1_countParts : GoodIn wsX7_partsOfRows wsX1_countParts := goodIn_r _ [21, 22, 23, 24, 25, 5, 26, 27, 28, 29, 30, 31, 32, 12, 43, 44, 45, 46, 47, 48] (by decide +kernel) (by decide +kernel)
set_option maxRecDepth 20000 in
theorem gX7_partsOfRows_X1_countParts : GoodIn wsX7_partsOfRows (wsV RX7 177 RX1 yX1_countParts wsX1_countParts) := goodIn_app (goodIn_of _ (by decide +kernel)) ggX7_partsOfRows_X1_countParts
theorem dX7_partsOfRows_0 : decode cX7_partsOfRows 0 = .ok (.aload_n 0, 1) := by decide +kernel
theorem dX7_partsOfRows_1 : decode cX7_partsOfRows 1 = .ok (.getfield 19, 3) := by decide +kernel
theorem dX7_partsOfRows_4 : decode cX7_partsOfRows 4 = .ok (.lload_n 1, 1) := by decide +kernel
theorem dX7_partsOfRows_5 : decode cX7_partsOfRows 5 = .ok (.aload_n 0, 1) := by decide +kernel
theorem dX7_partsOfRows_6 : decode cX7_partsOfRows 6 = .ok (.getfield 19, 3) := by decide +kernel
theorem dX7_partsOfRows_9 : decode cX7_partsOfRows 9 = .ok (.iload_n 3, 1) := by decide +kernel
theorem dX7_partsOfRows_10 : decode cX7_partsOfRows 10 = .ok (.invokevirtual 299, 3) := by decide +kernel
theorem dX7_partsOfRows_13 : decode cX7_partsOfRows 13 = .ok (.land, 1) := by decide +kernel
theorem dX7_partsOfRows_14 : decode cX7_partsOfRows 14 = .ok (.aload_n 0, 1) := by decide +kernel
theorem dX7_partsOfRows_15 : decode cX7_partsOfRows 15 = .ok (.getfield 19, 3) := by decide +kernel
theorem dX7_partsOfRows_18 : decode cX7_partsOfRows 18 = .ok (.invokevirtual 107, 3) := by decide +kernel
theorem dX7_partsOfRows_21 : decode cX7_partsOfRows 21 = .ok (.invokevirtual 177, 3) := by decide +kernel
theorem dX7_partsOfRows_24 : decode cX7_partsOfRows 24 = .ok (.ireturn, 1) := by decide +kernel
set_option maxRecDepth 20000 in
theorem ggX7_fadedOut_X1_way : GoodIn wsX7_fadedOut wsX1_way := goodIn_r _ [7, 8, 46, 47, 48, 49, 50, 51] (by decide +kernel) (by decide +kernel)
set_option maxRecDepth 20000 in
theorem gX7_fadedOut_X1_way : GoodIn wsX7_fadedOut (wsV RX7 107 RX1 yX1_way wsX1_way) := goodIn_app (goodIn_of _ (by decide +kernel)) ggX7_fadedOut_X1_way
set_option maxRecDepth 20000 in
theorem ggX7_fadedOut_X1_countParts : GoodIn wsX7_fadedOut wsX1_countParts := goodIn_r _ [12, 13, 14, 15, 16, 6, 17, 18, 19, 20, 21, 22, 23, 24, 46, 47, 48, 49, 50, 51] (by decide +kernel) (by decide +kernel)
set_option maxRecDepth 20000 in
theorem gX7_fadedOut_X1_countParts : GoodIn wsX7_fadedOut (wsV RX7 177 RX1 yX1_countParts wsX1_countParts) := goodIn_app (goodIn_of _ (by decide +kernel)) ggX7_fadedOut_X1_countParts
set_option maxRecDepth 20000 in
theorem ggX7_fadedOut_J13_bitCount_95d88 : GoodIn wsX7_fadedOut wsJ13_bitCount_95d88 := goodIn_r _ [28, 29, 30, 31] (by decide +kernel) (by decide +kernel)
set_option maxRecDepth 20000 in
theorem gX7_fadedOut_J13_bitCount_95d88 : GoodIn wsX7_fadedOut (va_wsS RX7 146 yJ13_bitCount_95d88 wsJ13_bitCount_95d88) := goodIn_app (goodIn_of _ (by decide +kernel)) ggX7_fadedOut_J13_bitCount_95d88
set_option maxRecDepth 20000 in
theorem ggX7_fadedOut_X7_power : GoodIn wsX7_fadedOut wsX7_power := goodIn_r _ [35] (by decide +kernel) (by decide +kernel)
set_option maxRecDepth 20000 in
theorem gX7_fadedOut_X7_power : GoodIn wsX7_fadedOut (va_wsS RX7 254 yX7_power wsX7_power) := goodIn_app (goodIn_of _ (by decide +kernel)) ggX7_fadedOut_X7_power
theorem dX7_fadedOut_0 : decode cX7_fadedOut 0 = .ok (.iconst 0, 1) := by decide +kernel
theorem dX7_fadedOut_1 : decode cX7_fadedOut 1 = .ok (.istore 7, 2) := by decide +kernel
theorem dX7_fadedOut_3 : decode cX7_fadedOut 3 = .ok (.lload_n 3, 1) := by decide +kernel
theorem dX7_fadedOut_4 : decode cX7_fadedOut 4 = .ok (.lstore 8, 2) := by decide +kernel
theorem dX7_fadedOut_6 : decode cX7_fadedOut 6 = .ok (.iconst 0, 1) := by decide +kernel
theorem dX7_fadedOut_7 : decode cX7_fadedOut 7 = .ok (.istore 10, 2) := by decide +kernel
theorem dX7_fadedOut_9 : decode cX7_fadedOut 9 = .ok (.iload 10, 2) := by decide +kernel
theorem dX7_fadedOut_11 : decode cX7_fadedOut 11 = .ok (.bipush 64, 2) := by decide +kernel
theorem dX7_fadedOut_13 : decode cX7_fadedOut 13 = .ok (.if_icmp .ge 89, 3) := by decide +kernel
theorem dX7_fadedOut_16 : decode cX7_fadedOut 16 = .ok (.aload_n 0, 1) := by decide +kernel
theorem dX7_fadedOut_17 : decode cX7_fadedOut 17 = .ok (.getfield 19, 3) := by decide +kernel
theorem dX7_fadedOut_20 : decode cX7_fadedOut 20 = .ok (.lload_n 1, 1) := by decide +kernel
theorem dX7_fadedOut_21 : decode cX7_fadedOut 21 = .ok (.lload 8, 2) := by decide +kernel
theorem dX7_fadedOut_23 : decode cX7_fadedOut 23 = .ok (.ldc2_w 169, 3) := by decide +kernel
theorem dX7_fadedOut_26 : decode cX7_fadedOut 26 = .ok (.lxor, 1) := by decide +kernel
theorem dX7_fadedOut_27 : decode cX7_fadedOut 27 = .ok (.land, 1) := by decide +kernel
theorem dX7_fadedOut_28 : decode cX7_fadedOut 28 = .ok (.aload_n 0, 1) := by decide +kernel
theorem dX7_fadedOut_29 : decode cX7_fadedOut 29 = .ok (.getfield 19, 3) := by decide +kernel
theorem dX7_fadedOut_32 : decode cX7_fadedOut 32 = .ok (.invokevirtual 107, 3) := by decide +kernel
theorem dX7_fadedOut_35 : decode cX7_fadedOut 35 = .ok (.invokevirtual 177, 3) := by decide +kernel
theorem dX7_fadedOut_38 : decode cX7_fadedOut 38 = .ok (.iload 5, 2) := by decide +kernel
theorem dX7_fadedOut_40 : decode cX7_fadedOut 40 = .ok (.if_icmp .lt 38, 3) := by decide +kernel
theorem dX7_fadedOut_43 : decode cX7_fadedOut 43 = .ok (.iload 7, 2) := by decide +kernel
theorem dX7_fadedOut_45 : decode cX7_fadedOut 45 = .ok (.iload 6, 2) := by decide +kernel
theorem dX7_fadedOut_47 : decode cX7_fadedOut 47 = .ok (.lload 8, 2) := by decide +kernel
theorem dX7_fadedOut_49 : decode cX7_fadedOut 49 = .ok (.invokestatic 146, 3) := by decide +kernel
theorem dX7_fadedOut_52 : decode cX7_fadedOut 52 = .ok (.invokestatic 254, 3) := by decide +kernel
theorem dX7_fadedOut_55 : decode cX7_fadedOut 55 = .ok (.bipush 10, 2) := by decide +kernel
theorem dX7_fadedOut_57 : decode cX7_fadedOut 57 = .ok (.iload 6, 2) := by decide +kernel
theorem dX7_fadedOut_59 : decode cX7_fadedOut 59 = .ok (.isub, 1) := by decide +kernel
theorem dX7_fadedOut_60 : decode cX7_fadedOut 60 = .ok (.lload_n 3, 1) := by decide +kernel
theorem dX7_fadedOut_61 : decode cX7_fadedOut 61 = .ok (.lload 8, 2) := by decide +kernel
theorem dX7_fadedOut_63 : decode cX7_fadedOut 63 = .ok (.ldc2_w 169, 3) := by decide +kernel
theorem dX7_fadedOut_66 : decode cX7_fadedOut 66 = .ok (.lxor, 1) := by decide +kernel
theorem dX7_fadedOut_67 : decode cX7_fadedOut 67 = .ok (.land, 1) := by decide +kernel
theorem dX7_fadedOut_68 : decode cX7_fadedOut 68 = .ok (.invokestatic 146, 3) := by decide +kernel
theorem dX7_fadedOut_71 : decode cX7_fadedOut 71 = .ok (.invokestatic 254, 3) := by decide +kernel
theorem dX7_fadedOut_74 : decode cX7_fadedOut 74 = .ok (.imul, 1) := by decide +kernel
theorem dX7_fadedOut_75 : decode cX7_fadedOut 75 = .ok (.iadd, 1) := by decide +kernel
theorem dX7_fadedOut_76 : decode cX7_fadedOut 76 = .ok (.istore 7, 2) := by decide +kernel
theorem dX7_fadedOut_78 : decode cX7_fadedOut 78 = .ok (.lload 8, 2) := by decide +kernel
theorem dX7_fadedOut_80 : decode cX7_fadedOut 80 = .ok (.lconst 0, 1) := by decide +kernel
theorem dX7_fadedOut_81 : decode cX7_fadedOut 81 = .ok (.lcmp, 1) := by decide +kernel
theorem dX7_fadedOut_82 : decode cX7_fadedOut 82 = .ok (.ifCond .ne 6, 3) := by decide +kernel
theorem dX7_fadedOut_85 : decode cX7_fadedOut 85 = .ok (.goto 17, 3) := by decide +kernel
theorem dX7_fadedOut_88 : decode cX7_fadedOut 88 = .ok (.lload 8, 2) := by decide +kernel
theorem dX7_fadedOut_90 : decode cX7_fadedOut 90 = .ok (.lconst 1, 1) := by decide +kernel
theorem dX7_fadedOut_91 : decode cX7_fadedOut 91 = .ok (.lsub, 1) := by decide +kernel
theorem dX7_fadedOut_92 : decode cX7_fadedOut 92 = .ok (.lload_n 3, 1) := by decide +kernel
theorem dX7_fadedOut_93 : decode cX7_fadedOut 93 = .ok (.land, 1) := by decide +kernel
theorem dX7_fadedOut_94 : decode cX7_fadedOut 94 = .ok (.lstore 8, 2) := by decide +kernel
theorem dX7_fadedOut_96 : decode cX7_fadedOut 96 = .ok (.iinc 10 1, 3) := by decide +kernel
theorem dX7_fadedOut_99 : decode cX7_fadedOut 99 = .ok (.goto (-90), 3) := by decide +kernel
theorem dX7_fadedOut_102 : decode cX7_fadedOut 102 = .ok (.iload 7, 2) := by decide +kernel
theorem dX7_fadedOut_104 : decode cX7_fadedOut 104 = .ok (.ireturn, 1) := by decide +kernel
theorem dX7_factorial_0 : decode cX7_factorial 0 = .ok (.iconst 1, 1) := by decide +kernel
theorem dX7_factorial_1 : decode cX7_factorial 1 = .ok (.istore_n 1, 1) := by decide +kernel
theorem dX7_factorial_2 : decode cX7_factorial 2 = .ok (.iconst 2, 1) := by decide +kernel
theorem dX7_factorial_3 : decode cX7_factorial 3 = .ok (.istore_n 2, 1) := by decide +kernel
theorem dX7_factorial_4 : decode cX7_factorial 4 = .ok (.iload_n 2, 1) := by decide +kernel
theorem dX7_factorial_5 : decode cX7_factorial 5 = .ok (.iload_n 0, 1) := by decide +kernel
theorem dX7_factorial_6 : decode cX7_factorial 6 = .ok (.if_icmp .gt 19, 3) := by decide +kernel
theorem dX7_factorial_9 : decode cX7_factorial 9 = .ok (.iload_n 2, 1) := by decide +kernel
theorem dX7_factorial_10 : decode cX7_factorial 10 = .ok (.bipush 6, 2) := by decide +kernel
theorem dX7_factorial_12 : decode cX7_factorial 12 = .ok (.if_icmp .gt 13, 3) := by decide +kernel
theorem dX7_factorial_15 : decode cX7_factorial 15 = .ok (.iload_n 1, 1) := by decide +kernel
theorem dX7_factorial_16 : decode cX7_factorial 16 = .ok (.iload_n 2, 1) := by decide +kernel
theorem dX7_factorial_17 : decode cX7_factorial 17 = .ok (.imul, 1) := by decide +kernel
theorem dX7_factorial_18 : decode cX7_factorial 18 = .ok (.istore_n 1, 1) := by decide +kernel
theorem dX7_factorial_19 : decode cX7_factorial 19 = .ok (.iinc 2 1, 3) := by decide +kernel
theorem dX7_factorial_22 : decode cX7_factorial 22 = .ok (.goto (-18), 3) := by decide +kernel
theorem dX7_factorial_25 : decode cX7_factorial 25 = .ok (.iload_n 1, 1) := by decide +kernel
theorem dX7_factorial_26 : decode cX7_factorial 26 = .ok (.ireturn, 1) := by decide +kernel
theorem dX7_power_0 : decode cX7_power 0 = .ok (.iconst 1, 1) := by decide +kernel
theorem dX7_power_1 : decode cX7_power 1 = .ok (.istore_n 2, 1) := by decide +kernel
theorem dX7_power_2 : decode cX7_power 2 = .ok (.iconst 0, 1) := by decide +kernel
theorem dX7_power_3 : decode cX7_power 3 = .ok (.istore_n 3, 1) := by decide +kernel
theorem dX7_power_4 : decode cX7_power 4 = .ok (.iload_n 3, 1) := by decide +kernel
theorem dX7_power_5 : decode cX7_power 5 = .ok (.iload_n 1, 1) := by decide +kernel
theorem dX7_power_6 : decode cX7_power 6 = .ok (.if_icmp .ge 19, 3) := by decide +kernel
theorem dX7_power_9 : decode cX7_power 9 = .ok (.iload_n 3, 1) := by decide +kernel
theorem dX7_power_10 : decode cX7_power 10 = .ok (.bipush 6, 2) := by decide +kernel
theorem dX7_power_12 : decode cX7_power 12 = .ok (.if_icmp .ge 13, 3) := by decide +kernel
theorem dX7_power_15 : decode cX7_power 15 = .ok (.iload_n 2, 1) := by decide +kernel
theorem dX7_power_16 : decode cX7_power 16 = .ok (.iload_n 0, 1) := by decide +kernel
theorem dX7_power_17 : decode cX7_power 17 = .ok (.imul, 1) := by decide +kernel
theorem dX7_power_18 : decode cX7_power 18 = .ok (.istore_n 2, 1) := by decide +kernel
theorem dX7_power_19 : decode cX7_power 19 = .ok (.iinc 3 1, 3) := by decide +kernel
theorem dX7_power_22 : decode cX7_power 22 = .ok (.goto (-18), 3) := by decide +kernel
theorem dX7_power_25 : decode cX7_power 25 = .ok (.iload_n 2, 1) := by decide +kernel
theorem dX7_power_26 : decode cX7_power 26 = .ok (.ireturn, 1) := by decide +kernel
set_option maxRecDepth 20000 in
theorem ggX7_fraction_X7_commonDivisor : GoodIn wsX7_fraction wsX7_commonDivisor := goodIn_r _ [8] (by decide +kernel) (by decide +kernel)
set_option maxRecDepth 20000 in
theorem gX7_fraction_X7_commonDivisor : GoodIn wsX7_fraction (va_wsS RX7 307 yX7_commonDivisor wsX7_commonDivisor) := goodIn_app (goodIn_of _ (by decide +kernel)) ggX7_fraction_X7_commonDivisor
theorem dX7_fraction_0 : decode cX7_fraction 0 = .ok (.iload_n 0, 1) := by decide +kernel
theorem dX7_fraction_1 : decode cX7_fraction 1 = .ok (.invokestatic 302, 3) := by decide +kernel
theorem dX7_fraction_4 : decode cX7_fraction 4 = .ok (.iload_n 1, 1) := by decide +kernel
theorem dX7_fraction_5 : decode cX7_fraction 5 = .ok (.invokestatic 307, 3) := by decide +kernel
theorem dX7_fraction_8 : decode cX7_fraction 8 = .ok (.istore_n 3, 1) := by decide +kernel
theorem dX7_fraction_9 : decode cX7_fraction 9 = .ok (.iload_n 3, 1) := by decide +kernel
theorem dX7_fraction_10 : decode cX7_fraction 10 = .ok (.ifCond .ne 5, 3) := by decide +kernel
theorem dX7_fraction_13 : decode cX7_fraction 13 = .ok (.iconst 0, 1) := by decide +kernel
theorem dX7_fraction_14 : decode cX7_fraction 14 = .ok (.ireturn, 1) := by decide +kernel
theorem dX7_fraction_15 : decode cX7_fraction 15 = .ok (.iload_n 2, 1) := by decide +kernel
theorem dX7_fraction_16 : decode cX7_fraction 16 = .ok (.ifCond .eq 7, 3) := by decide +kernel
theorem dX7_fraction_19 : decode cX7_fraction 19 = .ok (.iload_n 0, 1) := by decide +kernel
theorem dX7_fraction_20 : decode cX7_fraction 20 = .ok (.goto 4, 3) := by decide +kernel
theorem dX7_fraction_23 : decode cX7_fraction 23 = .ok (.iload_n 1, 1) := by decide +kernel
theorem dX7_fraction_24 : decode cX7_fraction 24 = .ok (.iload_n 3, 1) := by decide +kernel
theorem dX7_fraction_25 : decode cX7_fraction 25 = .ok (.idiv, 1) := by decide +kernel
theorem dX7_fraction_26 : decode cX7_fraction 26 = .ok (.ireturn, 1) := by decide +kernel
theorem dX7_commonDivisor_0 : decode cX7_commonDivisor 0 = .ok (.iload_n 0, 1) := by decide +kernel
theorem dX7_commonDivisor_1 : decode cX7_commonDivisor 1 = .ok (.istore_n 2, 1) := by decide +kernel
theorem dX7_commonDivisor_2 : decode cX7_commonDivisor 2 = .ok (.iload_n 1, 1) := by decide +kernel
theorem dX7_commonDivisor_3 : decode cX7_commonDivisor 3 = .ok (.istore_n 3, 1) := by decide +kernel
theorem dX7_commonDivisor_4 : decode cX7_commonDivisor 4 = .ok (.iconst 0, 1) := by decide +kernel
theorem dX7_commonDivisor_5 : decode cX7_commonDivisor 5 = .ok (.istore 4, 2) := by decide +kernel
theorem dX7_commonDivisor_7 : decode cX7_commonDivisor 7 = .ok (.iload 4, 2) := by decide +kernel
theorem dX7_commonDivisor_9 : decode cX7_commonDivisor 9 = .ok (.bipush 64, 2) := by decide +kernel
theorem dX7_commonDivisor_11 : decode cX7_commonDivisor 11 = .ok (.if_icmp .ge 23, 3) := by decide +kernel
theorem dX7_commonDivisor_14 : decode cX7_commonDivisor 14 = .ok (.iload_n 3, 1) := by decide +kernel
theorem dX7_commonDivisor_15 : decode cX7_commonDivisor 15 = .ok (.ifCond .eq 19, 3) := by decide +kernel
theorem dX7_commonDivisor_18 : decode cX7_commonDivisor 18 = .ok (.iload_n 2, 1) := by decide +kernel
theorem dX7_commonDivisor_19 : decode cX7_commonDivisor 19 = .ok (.iload_n 3, 1) := by decide +kernel
theorem dX7_commonDivisor_20 : decode cX7_commonDivisor 20 = .ok (.irem, 1) := by decide +kernel
theorem dX7_commonDivisor_21 : decode cX7_commonDivisor 21 = .ok (.istore 5, 2) := by decide +kernel
theorem dX7_commonDivisor_23 : decode cX7_commonDivisor 23 = .ok (.iload_n 3, 1) := by decide +kernel
theorem dX7_commonDivisor_24 : decode cX7_commonDivisor 24 = .ok (.istore_n 2, 1) := by decide +kernel
theorem dX7_commonDivisor_25 : decode cX7_commonDivisor 25 = .ok (.iload 5, 2) := by decide +kernel
theorem dX7_commonDivisor_27 : decode cX7_commonDivisor 27 = .ok (.istore_n 3, 1) := by decide +kernel
theorem dX7_commonDivisor_28 : decode cX7_commonDivisor 28 = .ok (.iinc 4 1, 3) := by decide +kernel
theorem dX7_commonDivisor_31 : decode cX7_commonDivisor 31 = .ok (.goto (-24), 3) := by decide +kernel
theorem dX7_commonDivisor_34 : decode cX7_commonDivisor 34 = .ok (.iload_n 2, 1) := by decide +kernel
theorem dX7_commonDivisor_35 : decode cX7_commonDivisor 35 = .ok (.ireturn, 1) := by decide +kernel
theorem dX8_init_0 : decode cX8_init 0 = .ok (.aload_n 0, 1) := by decide +kernel
theorem dX8_init_1 : decode cX8_init 1 = .ok (.invokespecial 1, 3) := by decide +kernel
theorem dX8_init_4 : decode cX8_init 4 = .ok (.aload_n 0, 1) := by decide +kernel
theorem dX8_init_5 : decode cX8_init 5 = .ok (.bipush 40, 2) := by decide +kernel
theorem dX8_init_7 : decode cX8_init 7 = .ok (.newarray .int, 2) := by decide +kernel
theorem dX8_init_9 : decode cX8_init 9 = .ok (.putfield 7, 3) := by decide +kernel
theorem dX8_init_12 : decode cX8_init 12 = .ok (.aload_n 0, 1) := by decide +kernel
theorem dX8_init_13 : decode cX8_init 13 = .ok (.bipush 39, 2) := by decide +kernel
theorem dX8_init_15 : decode cX8_init 15 = .ok (.newarray .int, 2) := by decide +kernel
theorem dX8_init_17 : decode cX8_init 17 = .ok (.putfield 13, 3) := by decide +kernel
theorem dX8_init_20 : decode cX8_init 20 = .ok (.aload_n 0, 1) := by decide +kernel
theorem dX8_init_21 : decode cX8_init 21 = .ok (.bipush 39, 2) := by decide +kernel
theorem dX8_init_23 : decode cX8_init 23 = .ok (.newarray .int, 2) := by decide +kernel
theorem dX8_init_25 : decode cX8_init 25 = .ok (.putfield 16, 3) := by decide +kernel
theorem dX8_init_28 : decode cX8_init 28 = .ok (.aload_n 0, 1) := by decide +kernel
theorem dX8_init_29 : decode cX8_init 29 = .ok (.bipush 39, 2) := by decide +kernel
theorem dX8_init_31 : decode cX8_init 31 = .ok (.newarray .int, 2) := by decide +kernel
theorem dX8_init_33 : decode cX8_init 33 = .ok (.putfield 19, 3) := by decide +kernel
theorem dX8_init_36 : decode cX8_init 36 = .ok (.aload_n 0, 1) := by decide +kernel
theorem dX8_init_37 : decode cX8_init 37 = .ok (.bipush 39, 2) := by decide +kernel
theorem dX8_init_39 : decode cX8_init 39 = .ok (.newarray .int, 2) := by decide +kernel
theorem dX8_init_41 : decode cX8_init 41 = .ok (.putfield 22, 3) := by decide +kernel
theorem dX8_init_44 : decode cX8_init 44 = .ok (.aload_n 0, 1) := by decide +kernel
theorem dX8_init_45 : decode cX8_init 45 = .ok (.sipush 546, 3) := by decide +kernel
theorem dX8_init_48 : decode cX8_init 48 = .ok (.newarray .int, 2) := by decide +kernel
theorem dX8_init_50 : decode cX8_init 50 = .ok (.putfield 25, 3) := by decide +kernel
theorem dX8_init_53 : decode cX8_init 53 = .ok (.aload_n 0, 1) := by decide +kernel
theorem dX8_init_54 : decode cX8_init 54 = .ok (.bipush 78, 2) := by decide +kernel
theorem dX8_init_56 : decode cX8_init 56 = .ok (.newarray .int, 2) := by decide +kernel
theorem dX8_init_58 : decode cX8_init 58 = .ok (.putfield 28, 3) := by decide +kernel
theorem dX8_init_61 : decode cX8_init 61 = .ok (.aload_n 0, 1) := by decide +kernel
theorem dX8_init_62 : decode cX8_init 62 = .ok (.iconst 2, 1) := by decide +kernel
theorem dX8_init_63 : decode cX8_init 63 = .ok (.newarray .boolean, 2) := by decide +kernel
theorem dX8_init_65 : decode cX8_init 65 = .ok (.putfield 31, 3) := by decide +kernel
theorem dX8_init_68 : decode cX8_init 68 = .ok (.aload_n 0, 1) := by decide +kernel
theorem dX8_init_69 : decode cX8_init 69 = .ok (.bipush 6, 2) := by decide +kernel
theorem dX8_init_71 : decode cX8_init 71 = .ok (.newarray .int, 2) := by decide +kernel
theorem dX8_init_73 : decode cX8_init 73 = .ok (.putfield 35, 3) := by decide +kernel
theorem dX8_init_76 : decode cX8_init 76 = .ok (.aload_n 0, 1) := by decide +kernel
theorem dX8_init_77 : decode cX8_init 77 = .ok (.bipush 6, 2) := by decide +kernel
theorem dX8_init_79 : decode cX8_init 79 = .ok (.newarray .int, 2) := by decide +kernel
theorem dX8_init_81 : decode cX8_init 81 = .ok (.putfield 38, 3) := by decide +kernel
theorem dX8_init_84 : decode cX8_init 84 = .ok (.aload_n 0, 1) := by decide +kernel
theorem dX8_init_85 : decode cX8_init 85 = .ok (.bipush 6, 2) := by decide +kernel
theorem dX8_init_87 : decode cX8_init 87 = .ok (.newarray .int, 2) := by decide +kernel
theorem dX8_init_89 : decode cX8_init 89 = .ok (.putfield 41, 3) := by decide +kernel
theorem dX8_init_92 : decode cX8_init 92 = .ok (.aload_n 0, 1) := by decide +kernel
theorem dX8_init_93 : decode cX8_init 93 = .ok (.bipush 64, 2) := by decide +kernel
theorem dX8_init_95 : decode cX8_init 95 = .ok (.newarray .int, 2) := by decide +kernel
theorem dX8_init_97 : decode cX8_init 97 = .ok (.putfield 44, 3) := by decide +kernel
theorem dX8_init_100 : decode cX8_init 100 = .ok (.aload_n 0, 1) := by decide +kernel
theorem dX8_init_101 : decode cX8_init 101 = .ok (.getfield 16, 3) := by decide +kernel
theorem dX8_init_104 : decode cX8_init 104 = .ok (.iconst 0, 1) := by decide +kernel
theorem dX8_init_105 : decode cX8_init 105 = .ok (.iconst 4, 1) := by decide +kernel
theorem dX8_init_106 : decode cX8_init 106 = .ok (.iastore, 1) := by decide +kernel
theorem dX8_init_107 : decode cX8_init 107 = .ok (.aload_n 0, 1) := by decide +kernel
theorem dX8_init_108 : decode cX8_init 108 = .ok (.getfield 16, 3) := by decide +kernel
theorem dX8_init_111 : decode cX8_init 111 = .ok (.iconst 1, 1) := by decide +kernel
theorem dX8_init_112 : decode cX8_init 112 = .ok (.iconst 1, 1) := by decide +kernel
theorem dX8_init_113 : decode cX8_init 113 = .ok (.iastore, 1) := by decide +kernel
theorem dX8_init_114 : decode cX8_init 114 = .ok (.aload_n 0, 1) := by decide +kernel
theorem dX8_init_115 : decode cX8_init 115 = .ok (.getfield 16, 3) := by decide +kernel
theorem dX8_init_118 : decode cX8_init 118 = .ok (.iconst 2, 1) := by decide +kernel
theorem dX8_init_119 : decode cX8_init 119 = .ok (.iconst 1, 1) := by decide +kernel
theorem dX8_init_120 : decode cX8_init 120 = .ok (.iastore, 1) := by decide +kernel
theorem dX8_init_121 : decode cX8_init 121 = .ok (.return_, 1) := by decide +kernel
theorem dX8_in_0 : decode cX8_in 0 = .ok (.lload_n 0, 1) := by decide +kernel
theorem dX8_in_1 : decode cX8_in 1 = .ok (.lload_n 2, 1) := by decide +kernel
theorem dX8_in_2 : decode cX8_in 2 = .ok (.lcmp, 1) := by decide +kernel
theorem dX8_in_3 : decode cX8_in 3 = .ok (.ifCond .lt 14, 3) := by decide +kernel
theorem dX8_in_6 : decode cX8_in 6 = .ok (.lload_n 0, 1) := by decide +kernel
theorem dX8_in_7 : decode cX8_in 7 = .ok (.lload 4, 2) := by decide +kernel
theorem dX8_in_9 : decode cX8_in 9 = .ok (.lcmp, 1) := by decide +kernel
theorem dX8_in_10 : decode cX8_in 10 = .ok (.ifCond .gt 7, 3) := by decide +kernel
theorem dX8_in_13 : decode cX8_in 13 = .ok (.iconst 1, 1) := by decide +kernel
theorem dX8_in_14 : decode cX8_in 14 = .ok (.goto 4, 3) := by decide +kernel
theorem dX8_in_17 : decode cX8_in 17 = .ok (.iconst 0, 1) := by decide +kernel
theorem dX8_in_18 : decode cX8_in 18 = .ok (.ireturn, 1) := by decide +kernel
theorem dX8_has_0 : decode cX8_has 0 = .ok (.lload_n 0, 1) := by decide +kernel
theorem dX8_has_1 : decode cX8_has 1 = .ok (.iload_n 2, 1) := by decide +kernel
theorem dX8_has_2 : decode cX8_has 2 = .ok (.lushr, 1) := by decide +kernel
theorem dX8_has_3 : decode cX8_has 3 = .ok (.lconst 1, 1) := by decide +kernel
theorem dX8_has_4 : decode cX8_has 4 = .ok (.land, 1) := by decide +kernel
theorem dX8_has_5 : decode cX8_has 5 = .ok (.lconst 1, 1) := by decide +kernel
theorem dX8_has_6 : decode cX8_has 6 = .ok (.lcmp, 1) := by decide +kernel
theorem dX8_has_7 : decode cX8_has 7 = .ok (.ifCond .ne 7, 3) := by decide +kernel
theorem dX8_has_10 : decode cX8_has 10 = .ok (.iconst 1, 1) := by decide +kernel
theorem dX8_has_11 : decode cX8_has 11 = .ok (.goto 4, 3) := by decide +kernel
theorem dX8_has_14 : decode cX8_has 14 = .ok (.iconst 0, 1) := by decide +kernel
theorem dX8_has_15 : decode cX8_has 15 = .ok (.ireturn, 1) := by decide +kernel
set_option maxRecDepth 20000 in
theorem ggX8_many_X8_has : GoodIn wsX8_many wsX8_has := goodIn_r _ [4] (by decide +kernel) (by decide +kernel)
set_option maxRecDepth 20000 in
theorem gX8_many_X8_has : GoodIn wsX8_many (va_wsS RX8 51 yX8_has wsX8_has) := goodIn_app (goodIn_of _ (by decide +kernel)) ggX8_many_X8_has
theorem dX8_many_0 : decode cX8_many 0 = .ok (.iconst 0, 1) := by decide +kernel
theorem dX8_many_1 : decode cX8_many 1 = .ok (.istore_n 2, 1) := by decide +kernel
theorem dX8_many_2 : decode cX8_many 2 = .ok (.iconst 0, 1) := by decide +kernel
theorem dX8_many_3 : decode cX8_many 3 = .ok (.istore_n 3, 1) := by decide +kernel
theorem dX8_many_4 : decode cX8_many 4 = .ok (.iload_n 3, 1) := by decide +kernel
theorem dX8_many_5 : decode cX8_many 5 = .ok (.bipush 36, 2) := by decide +kernel
theorem dX8_many_7 : decode cX8_many 7 = .ok (.if_icmp .ge 25, 3) := by decide +kernel
theorem dX8_many_10 : decode cX8_many 10 = .ok (.iload_n 2, 1) := by decide +kernel
theorem dX8_many_11 : decode cX8_many 11 = .ok (.lload_n 0, 1) := by decide +kernel
theorem dX8_many_12 : decode cX8_many 12 = .ok (.iload_n 3, 1) := by decide +kernel
theorem dX8_many_13 : decode cX8_many 13 = .ok (.invokestatic 51, 3) := by decide +kernel
theorem dX8_many_16 : decode cX8_many 16 = .ok (.ifCond .eq 7, 3) := by decide +kernel
theorem dX8_many_19 : decode cX8_many 19 = .ok (.iconst 1, 1) := by decide +kernel
theorem dX8_many_20 : decode cX8_many 20 = .ok (.goto 4, 3) := by decide +kernel
theorem dX8_many_23 : decode cX8_many 23 = .ok (.iconst 0, 1) := by decide +kernel
theorem dX8_many_24 : decode cX8_many 24 = .ok (.iadd, 1) := by decide +kernel
theorem dX8_many_25 : decode cX8_many 25 = .ok (.istore_n 2, 1) := by decide +kernel
theorem dX8_many_26 : decode cX8_many 26 = .ok (.iinc 3 1, 3) := by decide +kernel
theorem dX8_many_29 : decode cX8_many 29 = .ok (.goto (-25), 3) := by decide +kernel
theorem dX8_many_32 : decode cX8_many 32 = .ok (.iload_n 2, 1) := by decide +kernel
theorem dX8_many_33 : decode cX8_many 33 = .ok (.ireturn, 1) := by decide +kernel
theorem dX8_power_0 : decode cX8_power 0 = .ok (.iconst 1, 1) := by decide +kernel
theorem dX8_power_1 : decode cX8_power 1 = .ok (.istore_n 2, 1) := by decide +kernel
theorem dX8_power_2 : decode cX8_power 2 = .ok (.iconst 0, 1) := by decide +kernel
theorem dX8_power_3 : decode cX8_power 3 = .ok (.istore_n 3, 1) := by decide +kernel
theorem dX8_power_4 : decode cX8_power 4 = .ok (.iload_n 3, 1) := by decide +kernel
theorem dX8_power_5 : decode cX8_power 5 = .ok (.iload_n 1, 1) := by decide +kernel
theorem dX8_power_6 : decode cX8_power 6 = .ok (.if_icmp .ge 13, 3) := by decide +kernel
theorem dX8_power_9 : decode cX8_power 9 = .ok (.iload_n 2, 1) := by decide +kernel
theorem dX8_power_10 : decode cX8_power 10 = .ok (.iload_n 0, 1) := by decide +kernel
theorem dX8_power_11 : decode cX8_power 11 = .ok (.imul, 1) := by decide +kernel
