theorem dX0_init_0 : decode cX0_init 0 = .ok (.aload_n 0, 1) := by decide +kernel
theorem dX0_init_1 : decode cX0_init 1 = .ok (.invokespecial 3, 3) := by decide +kernel
theorem dX0_init_4 : decode cX0_init 4 = .ok (.aload_n 0, 1) := by decide +kernel
theorem dX0_init_5 : decode cX0_init 5 = .ok (.sipush 144, 3) := by decide +kernel
theorem dX0_init_8 : decode cX0_init 8 = .ok (.newarray .int, 2) := by decide +kernel
theorem dX0_init_10 : decode cX0_init 10 = .ok (.putfield 9, 3) := by decide +kernel
theorem dX0_init_13 : decode cX0_init 13 = .ok (.return_, 1) := by decide +kernel
set_option maxRecDepth 20000 in
theorem ggX0_depthOf_X2_holds : GoodIn wsX0_depthOf wsX2_holds := goodIn_r _ [9, 10, 11, 12, 13, 8, 14, 15, 16, 17, 18, 19, 20, 46, 47, 48] rfl (by decide +kernel)
set_option maxRecDepth 20000 in
theorem gX0_depthOf_X2_holds : GoodIn wsX0_depthOf (wsV RX0 15 RX2 yX2_holds wsX2_holds) := goodIn_app (goodIn_of _ (by decide +kernel)) ggX0_depthOf_X2_holds
set_option maxRecDepth 20000 in
theorem ggX0_depthOf_X2_columnOf : GoodIn wsX0_depthOf wsX2_columnOf := goodIn_r _ [24, 19, 46, 47, 48] rfl (by decide +kernel)
set_option maxRecDepth 20000 in
theorem gX0_depthOf_X2_columnOf : GoodIn wsX0_depthOf (wsV RX0 21 RX2 yX2_columnOf wsX2_columnOf) := goodIn_app (goodIn_of _ (by decide +kernel)) ggX0_depthOf_X2_columnOf
set_option maxRecDepth 20000 in
theorem ggX0_depthOf_X2_lineOf : GoodIn wsX0_depthOf wsX2_lineOf := goodIn_r _ [28, 19, 46, 47, 48] rfl (by decide +kernel)
set_option maxRecDepth 20000 in
theorem gX0_depthOf_X2_lineOf : GoodIn wsX0_depthOf (wsV RX0 25 RX2 yX2_lineOf wsX2_lineOf) := goodIn_app (goodIn_of _ (by decide +kernel)) ggX0_depthOf_X2_lineOf
set_option maxRecDepth 20000 in
theorem ggX0_depthOf_X2_width : GoodIn wsX0_depthOf wsX2_width := goodIn_r _ [32, 19, 46, 47, 48] rfl (by decide +kernel)
set_option maxRecDepth 20000 in
theorem gX0_depthOf_X2_width : GoodIn wsX0_depthOf (wsV RX0 28 RX2 yX2_width wsX2_width) := goodIn_app (goodIn_of _ (by decide +kernel)) ggX0_depthOf_X2_width
set_option maxRecDepth 20000 in
theorem ggX0_depthOf_X2_height : GoodIn wsX0_depthOf wsX2_height := goodIn_r _ [36, 20, 46, 47, 48] rfl (by decide +kernel)
set_option maxRecDepth 20000 in
theorem gX0_depthOf_X2_height : GoodIn wsX0_depthOf (wsV RX0 38 RX2 yX2_height wsX2_height) := goodIn_app (goodIn_of _ (by decide +kernel)) ggX0_depthOf_X2_height
set_option maxRecDepth 20000 in
theorem ggX0_depthOf_X2_holdsAt : GoodIn wsX0_depthOf wsX2_holdsAt := goodIn_r _ [40, 41, 42, 43, 8, 44, 19, 20, 45, 6, 7, 9, 10, 11, 12, 13, 14, 15, 16, 17, 18, 46, 47, 48] rfl (by decide +kernel)
set_option maxRecDepth 20000 in
theorem gX0_depthOf_X2_holdsAt : GoodIn wsX0_depthOf (wsV RX0 41 RX2 yX2_holdsAt wsX2_holdsAt) := goodIn_app (goodIn_of _ (by decide +kernel)) ggX0_depthOf_X2_holdsAt
theorem dX0_depthOf_0 : decode cX0_depthOf 0 = .ok (.aload_n 1, 1) := by decide +kernel
theorem dX0_depthOf_1 : decode cX0_depthOf 1 = .ok (.iload_n 2, 1) := by decide +kernel
theorem dX0_depthOf_2 : decode cX0_depthOf 2 = .ok (.invokevirtual 15, 3) := by decide +kernel
theorem dX0_depthOf_5 : decode cX0_depthOf 5 = .ok (.ifCond .ne 5, 3) := by decide +kernel
theorem dX0_depthOf_8 : decode cX0_depthOf 8 = .ok (.iconst 0, 1) := by decide +kernel
theorem dX0_depthOf_9 : decode cX0_depthOf 9 = .ok (.ireturn, 1) := by decide +kernel
theorem dX0_depthOf_10 : decode cX0_depthOf 10 = .ok (.aload_n 1, 1) := by decide +kernel
theorem dX0_depthOf_11 : decode cX0_depthOf 11 = .ok (.iload_n 2, 1) := by decide +kernel
theorem dX0_depthOf_12 : decode cX0_depthOf 12 = .ok (.invokevirtual 21, 3) := by decide +kernel
theorem dX0_depthOf_15 : decode cX0_depthOf 15 = .ok (.istore_n 3, 1) := by decide +kernel
theorem dX0_depthOf_16 : decode cX0_depthOf 16 = .ok (.aload_n 1, 1) := by decide +kernel
theorem dX0_depthOf_17 : decode cX0_depthOf 17 = .ok (.iload_n 2, 1) := by decide +kernel
theorem dX0_depthOf_18 : decode cX0_depthOf 18 = .ok (.invokevirtual 25, 3) := by decide +kernel
theorem dX0_depthOf_21 : decode cX0_depthOf 21 = .ok (.istore 4, 2) := by decide +kernel
theorem dX0_depthOf_23 : decode cX0_depthOf 23 = .ok (.iload_n 3, 1) := by decide +kernel
theorem dX0_depthOf_24 : decode cX0_depthOf 24 = .ok (.iconst 1, 1) := by decide +kernel
theorem dX0_depthOf_25 : decode cX0_depthOf 25 = .ok (.iadd, 1) := by decide +kernel
theorem dX0_depthOf_26 : decode cX0_depthOf 26 = .ok (.aload_n 1, 1) := by decide +kernel
theorem dX0_depthOf_27 : decode cX0_depthOf 27 = .ok (.invokevirtual 28, 3) := by decide +kernel
theorem dX0_depthOf_30 : decode cX0_depthOf 30 = .ok (.iload_n 3, 1) := by decide +kernel
theorem dX0_depthOf_31 : decode cX0_depthOf 31 = .ok (.isub, 1) := by decide +kernel
theorem dX0_depthOf_32 : decode cX0_depthOf 32 = .ok (.invokestatic 32, 3) := by decide +kernel
theorem dX0_depthOf_35 : decode cX0_depthOf 35 = .ok (.istore 5, 2) := by decide +kernel
theorem dX0_depthOf_37 : decode cX0_depthOf 37 = .ok (.iload 4, 2) := by decide +kernel
theorem dX0_depthOf_39 : decode cX0_depthOf 39 = .ok (.iconst 1, 1) := by decide +kernel
theorem dX0_depthOf_40 : decode cX0_depthOf 40 = .ok (.iadd, 1) := by decide +kernel
theorem dX0_depthOf_41 : decode cX0_depthOf 41 = .ok (.aload_n 1, 1) := by decide +kernel
theorem dX0_depthOf_42 : decode cX0_depthOf 42 = .ok (.invokevirtual 38, 3) := by decide +kernel
theorem dX0_depthOf_45 : decode cX0_depthOf 45 = .ok (.iload 4, 2) := by decide +kernel
theorem dX0_depthOf_47 : decode cX0_depthOf 47 = .ok (.isub, 1) := by decide +kernel
theorem dX0_depthOf_48 : decode cX0_depthOf 48 = .ok (.invokestatic 32, 3) := by decide +kernel
theorem dX0_depthOf_51 : decode cX0_depthOf 51 = .ok (.istore 6, 2) := by decide +kernel
theorem dX0_depthOf_53 : decode cX0_depthOf 53 = .ok (.iload 5, 2) := by decide +kernel
theorem dX0_depthOf_55 : decode cX0_depthOf 55 = .ok (.iload 6, 2) := by decide +kernel
theorem dX0_depthOf_57 : decode cX0_depthOf 57 = .ok (.invokestatic 32, 3) := by decide +kernel
theorem dX0_depthOf_60 : decode cX0_depthOf 60 = .ok (.istore 7, 2) := by decide +kernel
theorem dX0_depthOf_62 : decode cX0_depthOf 62 = .ok (.iload 7, 2) := by decide +kernel
theorem dX0_depthOf_64 : decode cX0_depthOf 64 = .ok (.iload 7, 2) := by decide +kernel
theorem dX0_depthOf_66 : decode cX0_depthOf 66 = .ok (.imul, 1) := by decide +kernel
theorem dX0_depthOf_67 : decode cX0_depthOf 67 = .ok (.istore 8, 2) := by decide +kernel
theorem dX0_depthOf_69 : decode cX0_depthOf 69 = .ok (.iconst 1, 1) := by decide +kernel
theorem dX0_depthOf_70 : decode cX0_depthOf 70 = .ok (.iload 7, 2) := by decide +kernel
theorem dX0_depthOf_72 : decode cX0_depthOf 72 = .ok (.isub, 1) := by decide +kernel
theorem dX0_depthOf_73 : decode cX0_depthOf 73 = .ok (.istore 9, 2) := by decide +kernel
theorem dX0_depthOf_75 : decode cX0_depthOf 75 = .ok (.iload 9, 2) := by decide +kernel
theorem dX0_depthOf_77 : decode cX0_depthOf 77 = .ok (.iload 7, 2) := by decide +kernel
theorem dX0_depthOf_79 : decode cX0_depthOf 79 = .ok (.if_icmp .ge 68, 3) := by decide +kernel
theorem dX0_depthOf_82 : decode cX0_depthOf 82 = .ok (.iconst 1, 1) := by decide +kernel
theorem dX0_depthOf_83 : decode cX0_depthOf 83 = .ok (.iload 7, 2) := by decide +kernel
theorem dX0_depthOf_85 : decode cX0_depthOf 85 = .ok (.isub, 1) := by decide +kernel
theorem dX0_depthOf_86 : decode cX0_depthOf 86 = .ok (.istore 10, 2) := by decide +kernel
theorem dX0_depthOf_88 : decode cX0_depthOf 88 = .ok (.iload 10, 2) := by decide +kernel
theorem dX0_depthOf_90 : decode cX0_depthOf 90 = .ok (.iload 7, 2) := by decide +kernel
theorem dX0_depthOf_92 : decode cX0_depthOf 92 = .ok (.if_icmp .ge 49, 3) := by decide +kernel
theorem dX0_depthOf_95 : decode cX0_depthOf 95 = .ok (.iload 10, 2) := by decide +kernel
theorem dX0_depthOf_97 : decode cX0_depthOf 97 = .ok (.iload 10, 2) := by decide +kernel
theorem dX0_depthOf_99 : decode cX0_depthOf 99 = .ok (.imul, 1) := by decide +kernel
theorem dX0_depthOf_100 : decode cX0_depthOf 100 = .ok (.iload 9, 2) := by decide +kernel
theorem dX0_depthOf_102 : decode cX0_depthOf 102 = .ok (.iload 9, 2) := by decide +kernel
theorem dX0_depthOf_104 : decode cX0_depthOf 104 = .ok (.imul, 1) := by decide +kernel
theorem dX0_depthOf_105 : decode cX0_depthOf 105 = .ok (.iadd, 1) := by decide +kernel
theorem dX0_depthOf_106 : decode cX0_depthOf 106 = .ok (.istore 11, 2) := by decide +kernel
theorem dX0_depthOf_108 : decode cX0_depthOf 108 = .ok (.iload 11, 2) := by decide +kernel
theorem dX0_depthOf_110 : decode cX0_depthOf 110 = .ok (.iload 8, 2) := by decide +kernel
theorem dX0_depthOf_112 : decode cX0_depthOf 112 = .ok (.if_icmp .ge 23, 3) := by decide +kernel
theorem dX0_depthOf_115 : decode cX0_depthOf 115 = .ok (.aload_n 1, 1) := by decide +kernel
theorem dX0_depthOf_116 : decode cX0_depthOf 116 = .ok (.iload_n 3, 1) := by decide +kernel
theorem dX0_depthOf_117 : decode cX0_depthOf 117 = .ok (.iload 10, 2) := by decide +kernel
theorem dX0_depthOf_119 : decode cX0_depthOf 119 = .ok (.iadd, 1) := by decide +kernel
theorem dX0_depthOf_120 : decode cX0_depthOf 120 = .ok (.iload 4, 2) := by decide +kernel
theorem dX0_depthOf_122 : decode cX0_depthOf 122 = .ok (.iload 9, 2) := by decide +kernel
theorem dX0_depthOf_124 : decode cX0_depthOf 124 = .ok (.iadd, 1) := by decide +kernel
theorem dX0_depthOf_125 : decode cX0_depthOf 125 = .ok (.invokevirtual 41, 3) := by decide +kernel
theorem dX0_depthOf_128 : decode cX0_depthOf 128 = .ok (.ifCond .ne 7, 3) := by decide +kernel
theorem dX0_depthOf_131 : decode cX0_depthOf 131 = .ok (.iload 11, 2) := by decide +kernel
theorem dX0_depthOf_133 : decode cX0_depthOf 133 = .ok (.istore 8, 2) := by decide +kernel
theorem dX0_depthOf_135 : decode cX0_depthOf 135 = .ok (.iinc 10 1, 3) := by decide +kernel
theorem dX0_depthOf_138 : decode cX0_depthOf 138 = .ok (.goto (-50), 3) := by decide +kernel
theorem dX0_depthOf_141 : decode cX0_depthOf 141 = .ok (.iinc 9 1, 3) := by decide +kernel
theorem dX0_depthOf_144 : decode cX0_depthOf 144 = .ok (.goto (-69), 3) := by decide +kernel
theorem dX0_depthOf_147 : decode cX0_depthOf 147 = .ok (.iload 8, 2) := by decide +kernel
theorem dX0_depthOf_149 : decode cX0_depthOf 149 = .ok (.ireturn, 1) := by decide +kernel
set_option maxRecDepth 20000 in
theorem ggX0_measure_X2_fields : GoodIn wsX0_measure wsX2_fields := goodIn_r _ [6, 7, 8, 54, 55, 56] rfl (by decide +kernel)
set_option maxRecDepth 20000 in
theorem gX0_measure_X2_fields : GoodIn wsX0_measure (wsV RX0 45 RX2 yX2_fields wsX2_fields) := goodIn_app (goodIn_of _ (by decide +kernel)) ggX0_measure_X2_fields
set_option maxRecDepth 20000 in
theorem ggX0_measure_X0_depthOf : GoodIn wsX0_measure wsX0_depthOf := goodIn_r _ [13, 14, 15, 16, 17, 18, 19, 20, 5, 21, 22, 23, 24, 25, 26, 27, 3, 4, 6, 7, 8, 28, 29, 30, 31, 32, 33, 34, 35, 36, 37, 38, 39, 40, 41, 42, 43, 44, 45, 46, 47, 48, 49, 50, 51, 52, 54, 55, 56] rfl (by decide +kernel)
set_option maxRecDepth 20000 in
theorem gX0_measure_X0_depthOf : GoodIn wsX0_measure (wsV RX0 48 RX0 yX0_depthOf wsX0_depthOf) := goodIn_app (goodIn_of _ (by decide +kernel)) ggX0_measure_X0_depthOf
theorem dX0_measure_0 : decode cX0_measure 0 = .ok (.iconst 0, 1) := by decide +kernel
theorem dX0_measure_1 : decode cX0_measure 1 = .ok (.istore_n 2, 1) := by decide +kernel
theorem dX0_measure_2 : decode cX0_measure 2 = .ok (.iload_n 2, 1) := by decide +kernel
theorem dX0_measure_3 : decode cX0_measure 3 = .ok (.aload_n 1, 1) := by decide +kernel
theorem dX0_measure_4 : decode cX0_measure 4 = .ok (.invokevirtual 45, 3) := by decide +kernel
theorem dX0_measure_7 : decode cX0_measure 7 = .ok (.if_icmp .ge 21, 3) := by decide +kernel
theorem dX0_measure_10 : decode cX0_measure 10 = .ok (.aload_n 0, 1) := by decide +kernel
theorem dX0_measure_11 : decode cX0_measure 11 = .ok (.getfield 9, 3) := by decide +kernel
theorem dX0_measure_14 : decode cX0_measure 14 = .ok (.iload_n 2, 1) := by decide +kernel
theorem dX0_measure_15 : decode cX0_measure 15 = .ok (.aload_n 0, 1) := by decide +kernel
theorem dX0_measure_16 : decode cX0_measure 16 = .ok (.aload_n 1, 1) := by decide +kernel
theorem dX0_measure_17 : decode cX0_measure 17 = .ok (.iload_n 2, 1) := by decide +kernel
theorem dX0_measure_18 : decode cX0_measure 18 = .ok (.invokevirtual 48, 3) := by decide +kernel
theorem dX0_measure_21 : decode cX0_measure 21 = .ok (.iastore, 1) := by decide +kernel
theorem dX0_measure_22 : decode cX0_measure 22 = .ok (.iinc 2 1, 3) := by decide +kernel
theorem dX0_measure_25 : decode cX0_measure 25 = .ok (.goto (-23), 3) := by decide +kernel
theorem dX0_measure_28 : decode cX0_measure 28 = .ok (.return_, 1) := by decide +kernel
set_option maxRecDepth 20000 in
theorem ggX0_isNeeded_X2_holds : GoodIn wsX0_isNeeded wsX2_holds := goodIn_r _ [6, 7, 8, 9, 10, 5, 11, 12, 13, 14, 15, 16, 17, 33, 34, 35] rfl (by decide +kernel)
set_option maxRecDepth 20000 in
theorem gX0_isNeeded_X2_holds : GoodIn wsX0_isNeeded (wsV RX0 15 RX2 yX2_holds wsX2_holds) := goodIn_app (goodIn_of _ (by decide +kernel)) ggX0_isNeeded_X2_holds
set_option maxRecDepth 20000 in
theorem ggX0_isNeeded_X2_fields : GoodIn wsX0_isNeeded wsX2_fields := goodIn_r _ [15, 16, 17, 33, 34, 35] rfl (by decide +kernel)
set_option maxRecDepth 20000 in
theorem gX0_isNeeded_X2_fields : GoodIn wsX0_isNeeded (wsV RX0 45 RX2 yX2_fields wsX2_fields) := goodIn_app (goodIn_of _ (by decide +kernel)) ggX0_isNeeded_X2_fields
set_option maxRecDepth 20000 in
theorem ggX0_isNeeded_X0_ballHolds : GoodIn wsX0_isNeeded wsX0_ballHolds := goodIn_r _ [23, 1, 24, 25, 26, 5, 27, 16, 28, 29, 30, 31, 32, 33, 34, 35] rfl (by decide +kernel)
set_option maxRecDepth 20000 in
theorem gX0_isNeeded_X0_ballHolds : GoodIn wsX0_isNeeded (wsV RX0 52 RX0 yX0_ballHolds wsX0_ballHolds) := goodIn_app (goodIn_of _ (by decide +kernel)) ggX0_isNeeded_X0_ballHolds
theorem dX0_isNeeded_0 : decode cX0_isNeeded 0 = .ok (.aload_n 1, 1) := by decide +kernel
theorem dX0_isNeeded_1 : decode cX0_isNeeded 1 = .ok (.iload_n 2, 1) := by decide +kernel
theorem dX0_isNeeded_2 : decode cX0_isNeeded 2 = .ok (.invokevirtual 15, 3) := by decide +kernel
theorem dX0_isNeeded_5 : decode cX0_isNeeded 5 = .ok (.ifCond .ne 5, 3) := by decide +kernel
theorem dX0_isNeeded_8 : decode cX0_isNeeded 8 = .ok (.iconst 0, 1) := by decide +kernel
theorem dX0_isNeeded_9 : decode cX0_isNeeded 9 = .ok (.ireturn, 1) := by decide +kernel
theorem dX0_isNeeded_10 : decode cX0_isNeeded 10 = .ok (.iconst 0, 1) := by decide +kernel
theorem dX0_isNeeded_11 : decode cX0_isNeeded 11 = .ok (.istore_n 3, 1) := by decide +kernel
theorem dX0_isNeeded_12 : decode cX0_isNeeded 12 = .ok (.iload_n 3, 1) := by decide +kernel
theorem dX0_isNeeded_13 : decode cX0_isNeeded 13 = .ok (.aload_n 1, 1) := by decide +kernel
theorem dX0_isNeeded_14 : decode cX0_isNeeded 14 = .ok (.invokevirtual 45, 3) := by decide +kernel
theorem dX0_isNeeded_17 : decode cX0_isNeeded 17 = .ok (.if_icmp .ge 36, 3) := by decide +kernel
theorem dX0_isNeeded_20 : decode cX0_isNeeded 20 = .ok (.aload_n 0, 1) := by decide +kernel
theorem dX0_isNeeded_21 : decode cX0_isNeeded 21 = .ok (.getfield 9, 3) := by decide +kernel
theorem dX0_isNeeded_24 : decode cX0_isNeeded 24 = .ok (.iload_n 3, 1) := by decide +kernel
theorem dX0_isNeeded_25 : decode cX0_isNeeded 25 = .ok (.iaload, 1) := by decide +kernel
theorem dX0_isNeeded_26 : decode cX0_isNeeded 26 = .ok (.aload_n 0, 1) := by decide +kernel
theorem dX0_isNeeded_27 : decode cX0_isNeeded 27 = .ok (.getfield 9, 3) := by decide +kernel
theorem dX0_isNeeded_30 : decode cX0_isNeeded 30 = .ok (.iload_n 2, 1) := by decide +kernel
theorem dX0_isNeeded_31 : decode cX0_isNeeded 31 = .ok (.iaload, 1) := by decide +kernel
theorem dX0_isNeeded_32 : decode cX0_isNeeded 32 = .ok (.if_icmp .le 15, 3) := by decide +kernel
theorem dX0_isNeeded_35 : decode cX0_isNeeded 35 = .ok (.aload_n 0, 1) := by decide +kernel
theorem dX0_isNeeded_36 : decode cX0_isNeeded 36 = .ok (.aload_n 1, 1) := by decide +kernel
theorem dX0_isNeeded_37 : decode cX0_isNeeded 37 = .ok (.iload_n 3, 1) := by decide +kernel
theorem dX0_isNeeded_38 : decode cX0_isNeeded 38 = .ok (.iload_n 2, 1) := by decide +kernel
theorem dX0_isNeeded_39 : decode cX0_isNeeded 39 = .ok (.invokevirtual 52, 3) := by decide +kernel
theorem dX0_isNeeded_42 : decode cX0_isNeeded 42 = .ok (.ifCond .eq 5, 3) := by decide +kernel
theorem dX0_isNeeded_45 : decode cX0_isNeeded 45 = .ok (.iconst 0, 1) := by decide +kernel
theorem dX0_isNeeded_46 : decode cX0_isNeeded 46 = .ok (.ireturn, 1) := by decide +kernel
theorem dX0_isNeeded_47 : decode cX0_isNeeded 47 = .ok (.iinc 3 1, 3) := by decide +kernel
theorem dX0_isNeeded_50 : decode cX0_isNeeded 50 = .ok (.goto (-38), 3) := by decide +kernel
theorem dX0_isNeeded_53 : decode cX0_isNeeded 53 = .ok (.iconst 1, 1) := by decide +kernel
theorem dX0_isNeeded_54 : decode cX0_isNeeded 54 = .ok (.ireturn, 1) := by decide +kernel
set_option maxRecDepth 20000 in
theorem ggX0_ballHolds_X2_columnOf : GoodIn wsX0_ballHolds wsX2_columnOf := goodIn_r _ [6, 7, 13, 14, 15] rfl (by decide +kernel)
set_option maxRecDepth 20000 in
theorem gX0_ballHolds_X2_columnOf : GoodIn wsX0_ballHolds (wsV RX0 21 RX2 yX2_columnOf wsX2_columnOf) := goodIn_app (goodIn_of _ (by decide +kernel)) ggX0_ballHolds_X2_columnOf
set_option maxRecDepth 20000 in
theorem ggX0_ballHolds_X2_lineOf : GoodIn wsX0_ballHolds wsX2_lineOf := goodIn_r _ [11, 7, 13, 14, 15] rfl (by decide +kernel)
set_option maxRecDepth 20000 in
theorem gX0_ballHolds_X2_lineOf : GoodIn wsX0_ballHolds (wsV RX0 25 RX2 yX2_lineOf wsX2_lineOf) := goodIn_app (goodIn_of _ (by decide +kernel)) ggX0_ballHolds_X2_lineOf
theorem dX0_ballHolds_0 : decode cX0_ballHolds 0 = .ok (.aload_n 1, 1) := by decide +kernel
theorem dX0_ballHolds_1 : decode cX0_ballHolds 1 = .ok (.iload_n 2, 1) := by decide +kernel
theorem dX0_ballHolds_2 : decode cX0_ballHolds 2 = .ok (.invokevirtual 21, 3) := by decide +kernel
theorem dX0_ballHolds_5 : decode cX0_ballHolds 5 = .ok (.aload_n 1, 1) := by decide +kernel
theorem dX0_ballHolds_6 : decode cX0_ballHolds 6 = .ok (.iload_n 3, 1) := by decide +kernel
theorem dX0_ballHolds_7 : decode cX0_ballHolds 7 = .ok (.invokevirtual 21, 3) := by decide +kernel
theorem dX0_ballHolds_10 : decode cX0_ballHolds 10 = .ok (.isub, 1) := by decide +kernel
theorem dX0_ballHolds_11 : decode cX0_ballHolds 11 = .ok (.istore 4, 2) := by decide +kernel
theorem dX0_ballHolds_13 : decode cX0_ballHolds 13 = .ok (.aload_n 1, 1) := by decide +kernel
theorem dX0_ballHolds_14 : decode cX0_ballHolds 14 = .ok (.iload_n 2, 1) := by decide +kernel
theorem dX0_ballHolds_15 : decode cX0_ballHolds 15 = .ok (.invokevirtual 25, 3) := by decide +kernel
theorem dX0_ballHolds_18 : decode cX0_ballHolds 18 = .ok (.aload_n 1, 1) := by decide +kernel
theorem dX0_ballHolds_19 : decode cX0_ballHolds 19 = .ok (.iload_n 3, 1) := by decide +kernel
theorem dX0_ballHolds_20 : decode cX0_ballHolds 20 = .ok (.invokevirtual 25, 3) := by decide +kernel
theorem dX0_ballHolds_23 : decode cX0_ballHolds 23 = .ok (.isub, 1) := by decide +kernel
theorem dX0_ballHolds_24 : decode cX0_ballHolds 24 = .ok (.istore 5, 2) := by decide +kernel
theorem dX0_ballHolds_26 : decode cX0_ballHolds 26 = .ok (.iload 4, 2) := by decide +kernel
theorem dX0_ballHolds_28 : decode cX0_ballHolds 28 = .ok (.iload 4, 2) := by decide +kernel
theorem dX0_ballHolds_30 : decode cX0_ballHolds 30 = .ok (.imul, 1) := by decide +kernel
theorem dX0_ballHolds_31 : decode cX0_ballHolds 31 = .ok (.iload 5, 2) := by decide +kernel
theorem dX0_ballHolds_33 : decode cX0_ballHolds 33 = .ok (.iload 5, 2) := by decide +kernel
theorem dX0_ballHolds_35 : decode cX0_ballHolds 35 = .ok (.imul, 1) := by decide +kernel
theorem dX0_ballHolds_36 : decode cX0_ballHolds 36 = .ok (.iadd, 1) := by decide +kernel
theorem dX0_ballHolds_37 : decode cX0_ballHolds 37 = .ok (.istore 6, 2) := by decide +kernel
theorem dX0_ballHolds_39 : decode cX0_ballHolds 39 = .ok (.aload_n 0, 1) := by decide +kernel
theorem dX0_ballHolds_40 : decode cX0_ballHolds 40 = .ok (.getfield 9, 3) := by decide +kernel
theorem dX0_ballHolds_43 : decode cX0_ballHolds 43 = .ok (.iload_n 2, 1) := by decide +kernel
theorem dX0_ballHolds_44 : decode cX0_ballHolds 44 = .ok (.iaload, 1) := by decide +kernel
theorem dX0_ballHolds_45 : decode cX0_ballHolds 45 = .ok (.iload 6, 2) := by decide +kernel
theorem dX0_ballHolds_47 : decode cX0_ballHolds 47 = .ok (.isub, 1) := by decide +kernel
theorem dX0_ballHolds_48 : decode cX0_ballHolds 48 = .ok (.aload_n 0, 1) := by decide +kernel
theorem dX0_ballHolds_49 : decode cX0_ballHolds 49 = .ok (.getfield 9, 3) := by decide +kernel
theorem dX0_ballHolds_52 : decode cX0_ballHolds 52 = .ok (.iload_n 3, 1) := by decide +kernel
theorem dX0_ballHolds_53 : decode cX0_ballHolds 53 = .ok (.iaload, 1) := by decide +kernel
theorem dX0_ballHolds_54 : decode cX0_ballHolds 54 = .ok (.isub, 1) := by decide +kernel
theorem dX0_ballHolds_55 : decode cX0_ballHolds 55 = .ok (.istore 7, 2) := by decide +kernel
theorem dX0_ballHolds_57 : decode cX0_ballHolds 57 = .ok (.iload 7, 2) := by decide +kernel
theorem dX0_ballHolds_59 : decode cX0_ballHolds 59 = .ok (.ifCond .lt 26, 3) := by decide +kernel
theorem dX0_ballHolds_62 : decode cX0_ballHolds 62 = .ok (.iload 7, 2) := by decide +kernel
theorem dX0_ballHolds_64 : decode cX0_ballHolds 64 = .ok (.iload 7, 2) := by decide +kernel
theorem dX0_ballHolds_66 : decode cX0_ballHolds 66 = .ok (.imul, 1) := by decide +kernel
theorem dX0_ballHolds_67 : decode cX0_ballHolds 67 = .ok (.iconst 4, 1) := by decide +kernel
theorem dX0_ballHolds_68 : decode cX0_ballHolds 68 = .ok (.iload 6, 2) := by decide +kernel
theorem dX0_ballHolds_70 : decode cX0_ballHolds 70 = .ok (.imul, 1) := by decide +kernel
theorem dX0_ballHolds_71 : decode cX0_ballHolds 71 = .ok (.aload_n 0, 1) := by decide +kernel
theorem dX0_ballHolds_72 : decode cX0_ballHolds 72 = .ok (.getfield 9, 3) := by decide +kernel
theorem dX0_ballHolds_75 : decode cX0_ballHolds 75 = .ok (.iload_n 3, 1) := by decide +kernel
theorem dX0_ballHolds_76 : decode cX0_ballHolds 76 = .ok (.iaload, 1) := by decide +kernel
theorem dX0_ballHolds_77 : decode cX0_ballHolds 77 = .ok (.imul, 1) := by decide +kernel
theorem dX0_ballHolds_78 : decode cX0_ballHolds 78 = .ok (.if_icmp .lt 7, 3) := by decide +kernel
theorem dX0_ballHolds_81 : decode cX0_ballHolds 81 = .ok (.iconst 1, 1) := by decide +kernel
theorem dX0_ballHolds_82 : decode cX0_ballHolds 82 = .ok (.goto 4, 3) := by decide +kernel
theorem dX0_ballHolds_85 : decode cX0_ballHolds 85 = .ok (.iconst 0, 1) := by decide +kernel
theorem dX0_ballHolds_86 : decode cX0_ballHolds 86 = .ok (.ireturn, 1) := by decide +kernel
theorem dX1_init_0 : decode cX1_init 0 = .ok (.aload_n 0, 1) := by decide +kernel
theorem dX1_init_1 : decode cX1_init 1 = .ok (.invokespecial 3, 3) := by decide +kernel
theorem dX1_init_4 : decode cX1_init 4 = .ok (.return_, 1) := by decide +kernel
set_option maxRecDepth 20000 in
theorem ggX1_find_X2_heapSize : GoodIn wsX1_find wsX2_heapSize := goodIn_r _ [8, 9, 10, 11, 7, 12, 13, 14, 15, 16, 17, 18, 19, 20, 21, 22, 23, 56, 57, 58] rfl (by decide +kernel)
set_option maxRecDepth 20000 in
theorem gX1_find_X2_heapSize : GoodIn wsX1_find (wsV RX1 9 RX2 yX2_heapSize wsX2_heapSize) := goodIn_app (goodIn_of _ (by decide +kernel)) ggX1_find_X2_heapSize
set_option maxRecDepth 20000 in
theorem ggX1_find_X2_height : GoodIn wsX1_find wsX2_height := goodIn_r _ [27, 14, 56, 57, 58] rfl (by decide +kernel)
set_option maxRecDepth 20000 in
theorem gX1_find_X2_height : GoodIn wsX1_find (wsV RX1 15 RX2 yX2_height wsX2_height) := goodIn_app (goodIn_of _ (by decide +kernel)) ggX1_find_X2_height
set_option maxRecDepth 20000 in
theorem ggX1_find_X2_width : GoodIn wsX1_find wsX2_width := goodIn_r _ [31, 13, 56, 57, 58] rfl (by decide +kernel)
set_option maxRecDepth 20000 in
theorem gX1_find_X2_width : GoodIn wsX1_find (wsV RX1 18 RX2 yX2_width wsX2_width) := goodIn_app (goodIn_of _ (by decide +kernel)) ggX1_find_X2_width
set_option maxRecDepth 20000 in
theorem ggX1_find_X1_squareAbout : GoodIn wsX1_find wsX1_squareAbout := goodIn_r _ [35, 36, 37, 38, 39, 40, 41, 42, 43, 10, 11, 7, 12, 13, 14, 44, 45, 46, 47, 48, 49, 50, 51, 52, 16, 17, 18, 19, 20, 21, 22, 23, 9, 56, 57, 58] rfl (by decide +kernel)
set_option maxRecDepth 20000 in
theorem gX1_find_X1_squareAbout : GoodIn wsX1_find (va_wsS RX1 21 yX1_squareAbout wsX1_squareAbout) := goodIn_app (goodIn_of _ (by decide +kernel)) ggX1_find_X1_squareAbout
theorem dX1_find_0 : decode cX1_find 0 = .ok (.aload_n 1, 1) := by decide +kernel
theorem dX1_find_1 : decode cX1_find 1 = .ok (.invokevirtual 9, 3) := by decide +kernel
theorem dX1_find_4 : decode cX1_find 4 = .ok (.ifCond .ne 5, 3) := by decide +kernel
theorem dX1_find_7 : decode cX1_find 7 = .ok (.iconst 0, 1) := by decide +kernel
theorem dX1_find_8 : decode cX1_find 8 = .ok (.ireturn, 1) := by decide +kernel
theorem dX1_find_9 : decode cX1_find 9 = .ok (.iconst 0, 1) := by decide +kernel
theorem dX1_find_10 : decode cX1_find 10 = .ok (.istore_n 2, 1) := by decide +kernel
theorem dX1_find_11 : decode cX1_find 11 = .ok (.iload_n 2, 1) := by decide +kernel
theorem dX1_find_12 : decode cX1_find 12 = .ok (.iconst 2, 1) := by decide +kernel
theorem dX1_find_13 : decode cX1_find 13 = .ok (.aload_n 1, 1) := by decide +kernel
theorem dX1_find_14 : decode cX1_find 14 = .ok (.invokevirtual 15, 3) := by decide +kernel
theorem dX1_find_17 : decode cX1_find 17 = .ok (.imul, 1) := by decide +kernel
theorem dX1_find_18 : decode cX1_find 18 = .ok (.iconst 2, 1) := by decide +kernel
theorem dX1_find_19 : decode cX1_find 19 = .ok (.isub, 1) := by decide +kernel
theorem dX1_find_20 : decode cX1_find 20 = .ok (.if_icmp .gt 63, 3) := by decide +kernel
theorem dX1_find_23 : decode cX1_find 23 = .ok (.iconst 0, 1) := by decide +kernel
theorem dX1_find_24 : decode cX1_find 24 = .ok (.istore_n 3, 1) := by decide +kernel
theorem dX1_find_25 : decode cX1_find 25 = .ok (.iload_n 3, 1) := by decide +kernel
theorem dX1_find_26 : decode cX1_find 26 = .ok (.iconst 2, 1) := by decide +kernel
theorem dX1_find_27 : decode cX1_find 27 = .ok (.aload_n 1, 1) := by decide +kernel
theorem dX1_find_28 : decode cX1_find 28 = .ok (.invokevirtual 18, 3) := by decide +kernel
theorem dX1_find_31 : decode cX1_find 31 = .ok (.imul, 1) := by decide +kernel
theorem dX1_find_32 : decode cX1_find 32 = .ok (.iconst 2, 1) := by decide +kernel
theorem dX1_find_33 : decode cX1_find 33 = .ok (.isub, 1) := by decide +kernel
theorem dX1_find_34 : decode cX1_find 34 = .ok (.if_icmp .gt 43, 3) := by decide +kernel
theorem dX1_find_37 : decode cX1_find 37 = .ok (.aload_n 1, 1) := by decide +kernel
theorem dX1_find_38 : decode cX1_find 38 = .ok (.iload_n 3, 1) := by decide +kernel
theorem dX1_find_39 : decode cX1_find 39 = .ok (.iload_n 2, 1) := by decide +kernel
theorem dX1_find_40 : decode cX1_find 40 = .ok (.invokestatic 21, 3) := by decide +kernel
theorem dX1_find_43 : decode cX1_find 43 = .ok (.istore 4, 2) := by decide +kernel
theorem dX1_find_45 : decode cX1_find 45 = .ok (.iload 4, 2) := by decide +kernel
theorem dX1_find_47 : decode cX1_find 47 = .ok (.sipush (-999), 3) := by decide +kernel
theorem dX1_find_50 : decode cX1_find 50 = .ok (.if_icmp .eq 21, 3) := by decide +kernel
theorem dX1_find_53 : decode cX1_find 53 = .ok (.aload_n 0, 1) := by decide +kernel
theorem dX1_find_54 : decode cX1_find 54 = .ok (.iload_n 3, 1) := by decide +kernel
theorem dX1_find_55 : decode cX1_find 55 = .ok (.putfield 27, 3) := by decide +kernel
theorem dX1_find_58 : decode cX1_find 58 = .ok (.aload_n 0, 1) := by decide +kernel
theorem dX1_find_59 : decode cX1_find 59 = .ok (.iload_n 2, 1) := by decide +kernel
theorem dX1_find_60 : decode cX1_find 60 = .ok (.putfield 31, 3) := by decide +kernel
theorem dX1_find_63 : decode cX1_find 63 = .ok (.aload_n 0, 1) := by decide +kernel
theorem dX1_find_64 : decode cX1_find 64 = .ok (.iload 4, 2) := by decide +kernel
theorem dX1_find_66 : decode cX1_find 66 = .ok (.putfield 34, 3) := by decide +kernel
theorem dX1_find_69 : decode cX1_find 69 = .ok (.iconst 1, 1) := by decide +kernel
theorem dX1_find_70 : decode cX1_find 70 = .ok (.ireturn, 1) := by decide +kernel
theorem dX1_find_71 : decode cX1_find 71 = .ok (.iinc 3 1, 3) := by decide +kernel
theorem dX1_find_74 : decode cX1_find 74 = .ok (.goto (-49), 3) := by decide +kernel
theorem dX1_find_77 : decode cX1_find 77 = .ok (.iinc 2 1, 3) := by decide +kernel
theorem dX1_find_80 : decode cX1_find 80 = .ok (.goto (-69), 3) := by decide +kernel
theorem dX1_find_83 : decode cX1_find 83 = .ok (.iconst 0, 1) := by decide +kernel
theorem dX1_find_84 : decode cX1_find 84 = .ok (.ireturn, 1) := by decide +kernel
theorem dX1_middleX_0 : decode cX1_middleX 0 = .ok (.aload_n 0, 1) := by decide +kernel
theorem dX1_middleX_1 : decode cX1_middleX 1 = .ok (.getfield 27, 3) := by decide +kernel
theorem dX1_middleX_4 : decode cX1_middleX 4 = .ok (.ireturn, 1) := by decide +kernel
theorem dX1_middleY_0 : decode cX1_middleY 0 = .ok (.aload_n 0, 1) := by decide +kernel
theorem dX1_middleY_1 : decode cX1_middleY 1 = .ok (.getfield 31, 3) := by decide +kernel
theorem dX1_middleY_4 : decode cX1_middleY 4 = .ok (.ireturn, 1) := by decide +kernel
theorem dX1_greatestSquare_0 : decode cX1_greatestSquare 0 = .ok (.aload_n 0, 1) := by decide +kernel
theorem dX1_greatestSquare_1 : decode cX1_greatestSquare 1 = .ok (.getfield 34, 3) := by decide +kernel
theorem dX1_greatestSquare_4 : decode cX1_greatestSquare 4 = .ok (.ireturn, 1) := by decide +kernel
set_option maxRecDepth 20000 in
theorem ggX1_squareAbout_X2_fields : GoodIn wsX1_squareAbout wsX2_fields := goodIn_r _ [12, 13, 14, 33, 34, 35] rfl (by decide +kernel)
set_option maxRecDepth 20000 in
theorem gX1_squareAbout_X2_fields : GoodIn wsX1_squareAbout (wsV RX1 37 RX2 yX2_fields wsX2_fields) := goodIn_app (goodIn_of _ (by decide +kernel)) ggX1_squareAbout_X2_fields
set_option maxRecDepth 20000 in
theorem ggX1_squareAbout_X2_columnOf : GoodIn wsX1_squareAbout wsX2_columnOf := goodIn_r _ [18, 13, 33, 34, 35] rfl (by decide +kernel)
set_option maxRecDepth 20000 in
theorem gX1_squareAbout_X2_columnOf : GoodIn wsX1_squareAbout (wsV RX1 40 RX2 yX2_columnOf wsX2_columnOf) := goodIn_app (goodIn_of _ (by decide +kernel)) ggX1_squareAbout_X2_columnOf
set_option maxRecDepth 20000 in
theorem ggX1_squareAbout_X2_lineOf : GoodIn wsX1_squareAbout wsX2_lineOf := goodIn_r _ [22, 13, 33, 34, 35] rfl (by decide +kernel)
set_option maxRecDepth 20000 in
theorem gX1_squareAbout_X2_lineOf : GoodIn wsX1_squareAbout (wsV RX1 44 RX2 yX2_lineOf wsX2_lineOf) := goodIn_app (goodIn_of _ (by decide +kernel)) ggX1_squareAbout_X2_lineOf
set_option maxRecDepth 20000 in
theorem ggX1_squareAbout_X2_holds : GoodIn wsX1_squareAbout wsX2_holds := goodIn_r _ [26, 27, 28, 29, 30, 11, 31, 32, 9, 10, 12, 13, 14, 33, 34, 35] rfl (by decide +kernel)
set_option maxRecDepth 20000 in
theorem gX1_squareAbout_X2_holds : GoodIn wsX1_squareAbout (wsV RX1 47 RX2 yX2_holds wsX2_holds) := goodIn_app (goodIn_of _ (by decide +kernel)) ggX1_squareAbout_X2_holds
theorem dX1_squareAbout_0 : decode cX1_squareAbout 0 = .ok (.iconst 0, 1) := by decide +kernel
theorem dX1_squareAbout_1 : decode cX1_squareAbout 1 = .ok (.istore_n 3, 1) := by decide +kernel
theorem dX1_squareAbout_2 : decode cX1_squareAbout 2 = .ok (.sipush 1152, 3) := by decide +kernel
theorem dX1_squareAbout_5 : decode cX1_squareAbout 5 = .ok (.istore 4, 2) := by decide +kernel
theorem dX1_squareAbout_7 : decode cX1_squareAbout 7 = .ok (.iconst 0, 1) := by decide +kernel
theorem dX1_squareAbout_8 : decode cX1_squareAbout 8 = .ok (.istore 5, 2) := by decide +kernel
theorem dX1_squareAbout_10 : decode cX1_squareAbout 10 = .ok (.iload 5, 2) := by decide +kernel
theorem dX1_squareAbout_12 : decode cX1_squareAbout 12 = .ok (.aload_n 0, 1) := by decide +kernel
theorem dX1_squareAbout_13 : decode cX1_squareAbout 13 = .ok (.invokevirtual 37, 3) := by decide +kernel
theorem dX1_squareAbout_16 : decode cX1_squareAbout 16 = .ok (.if_icmp .ge 84, 3) := by decide +kernel
theorem dX1_squareAbout_19 : decode cX1_squareAbout 19 = .ok (.iconst 2, 1) := by decide +kernel
theorem dX1_squareAbout_20 : decode cX1_squareAbout 20 = .ok (.aload_n 0, 1) := by decide +kernel
theorem dX1_squareAbout_21 : decode cX1_squareAbout 21 = .ok (.iload 5, 2) := by decide +kernel
theorem dX1_squareAbout_23 : decode cX1_squareAbout 23 = .ok (.invokevirtual 40, 3) := by decide +kernel
theorem dX1_squareAbout_26 : decode cX1_squareAbout 26 = .ok (.imul, 1) := by decide +kernel
theorem dX1_squareAbout_27 : decode cX1_squareAbout 27 = .ok (.iload_n 1, 1) := by decide +kernel
theorem dX1_squareAbout_28 : decode cX1_squareAbout 28 = .ok (.isub, 1) := by decide +kernel
theorem dX1_squareAbout_29 : decode cX1_squareAbout 29 = .ok (.istore 6, 2) := by decide +kernel
theorem dX1_squareAbout_31 : decode cX1_squareAbout 31 = .ok (.iconst 2, 1) := by decide +kernel
theorem dX1_squareAbout_32 : decode cX1_squareAbout 32 = .ok (.aload_n 0, 1) := by decide +kernel
theorem dX1_squareAbout_33 : decode cX1_squareAbout 33 = .ok (.iload 5, 2) := by decide +kernel
theorem dX1_squareAbout_35 : decode cX1_squareAbout 35 = .ok (.invokevirtual 44, 3) := by decide +kernel
theorem dX1_squareAbout_38 : decode cX1_squareAbout 38 = .ok (.imul, 1) := by decide +kernel
theorem dX1_squareAbout_39 : decode cX1_squareAbout 39 = .ok (.iload_n 2, 1) := by decide +kernel
theorem dX1_squareAbout_40 : decode cX1_squareAbout 40 = .ok (.isub, 1) := by decide +kernel
theorem dX1_squareAbout_41 : decode cX1_squareAbout 41 = .ok (.istore 7, 2) := by decide +kernel
theorem dX1_squareAbout_43 : decode cX1_squareAbout 43 = .ok (.iload 6, 2) := by decide +kernel
theorem dX1_squareAbout_45 : decode cX1_squareAbout 45 = .ok (.iload 6, 2) := by decide +kernel
theorem dX1_squareAbout_47 : decode cX1_squareAbout 47 = .ok (.imul, 1) := by decide +kernel
theorem dX1_squareAbout_48 : decode cX1_squareAbout 48 = .ok (.iload 7, 2) := by decide +kernel
theorem dX1_squareAbout_50 : decode cX1_squareAbout 50 = .ok (.iload 7, 2) := by decide +kernel
theorem dX1_squareAbout_52 : decode cX1_squareAbout 52 = .ok (.imul, 1) := by decide +kernel
theorem dX1_squareAbout_53 : decode cX1_squareAbout 53 = .ok (.iadd, 1) := by decide +kernel
theorem dX1_squareAbout_54 : decode cX1_squareAbout 54 = .ok (.istore 8, 2) := by decide +kernel
theorem dX1_squareAbout_56 : decode cX1_squareAbout 56 = .ok (.aload_n 0, 1) := by decide +kernel
theorem dX1_squareAbout_57 : decode cX1_squareAbout 57 = .ok (.iload 5, 2) := by decide +kernel
theorem dX1_squareAbout_59 : decode cX1_squareAbout 59 = .ok (.invokevirtual 47, 3) := by decide +kernel
theorem dX1_squareAbout_62 : decode cX1_squareAbout 62 = .ok (.ifCond .eq 13, 3) := by decide +kernel
theorem dX1_squareAbout_65 : decode cX1_squareAbout 65 = .ok (.iload_n 3, 1) := by decide +kernel
theorem dX1_squareAbout_66 : decode cX1_squareAbout 66 = .ok (.iload 8, 2) := by decide +kernel
theorem dX1_squareAbout_68 : decode cX1_squareAbout 68 = .ok (.invokestatic 51, 3) := by decide +kernel
theorem dX1_squareAbout_71 : decode cX1_squareAbout 71 = .ok (.istore_n 3, 1) := by decide +kernel
theorem dX1_squareAbout_72 : decode cX1_squareAbout 72 = .ok (.goto 12, 3) := by decide +kernel
theorem dX1_squareAbout_75 : decode cX1_squareAbout 75 = .ok (.iload 4, 2) := by decide +kernel
theorem dX1_squareAbout_77 : decode cX1_squareAbout 77 = .ok (.iload 8, 2) := by decide +kernel
theorem dX1_squareAbout_79 : decode cX1_squareAbout 79 = .ok (.invokestatic 57, 3) := by decide +kernel
theorem dX1_squareAbout_82 : decode cX1_squareAbout 82 = .ok (.istore 4, 2) := by decide +kernel
theorem dX1_squareAbout_84 : decode cX1_squareAbout 84 = .ok (.iload_n 3, 1) := by decide +kernel
theorem dX1_squareAbout_85 : decode cX1_squareAbout 85 = .ok (.iload 4, 2) := by decide +kernel
theorem dX1_squareAbout_87 : decode cX1_squareAbout 87 = .ok (.if_icmp .lt 7, 3) := by decide +kernel
theorem dX1_squareAbout_90 : decode cX1_squareAbout 90 = .ok (.sipush (-999), 3) := by decide +kernel
theorem dX1_squareAbout_93 : decode cX1_squareAbout 93 = .ok (.ireturn, 1) := by decide +kernel
theorem dX1_squareAbout_94 : decode cX1_squareAbout 94 = .ok (.iinc 5 1, 3) := by decide +kernel
theorem dX1_squareAbout_97 : decode cX1_squareAbout 97 = .ok (.goto (-87), 3) := by decide +kernel
theorem dX1_squareAbout_100 : decode cX1_squareAbout 100 = .ok (.iload_n 3, 1) := by decide +kernel
theorem dX1_squareAbout_101 : decode cX1_squareAbout 101 = .ok (.ireturn, 1) := by decide +kernel
theorem dX2_init_0 : decode cX2_init 0 = .ok (.aload_n 0, 1) := by decide +kernel
theorem dX2_init_1 : decode cX2_init 1 = .ok (.invokespecial 3, 3) := by decide +kernel
theorem dX2_init_4 : decode cX2_init 4 = .ok (.aload_n 0, 1) := by decide +kernel
theorem dX2_init_5 : decode cX2_init 5 = .ok (.sipush 144, 3) := by decide +kernel
theorem dX2_init_8 : decode cX2_init 8 = .ok (.newarray .boolean, 2) := by decide +kernel
theorem dX2_init_10 : decode cX2_init 10 = .ok (.putfield 9, 3) := by decide +kernel
theorem dX2_init_13 : decode cX2_init 13 = .ok (.aload_n 0, 1) := by decide +kernel
theorem dX2_init_14 : decode cX2_init 14 = .ok (.bipush 8, 2) := by decide +kernel
theorem dX2_init_16 : decode cX2_init 16 = .ok (.putfield 15, 3) := by decide +kernel
theorem dX2_init_19 : decode cX2_init 19 = .ok (.aload_n 0, 1) := by decide +kernel
theorem dX2_init_20 : decode cX2_init 20 = .ok (.bipush 8, 2) := by decide +kernel
theorem dX2_init_22 : decode cX2_init 22 = .ok (.putfield 19, 3) := by decide +kernel
theorem dX2_init_25 : decode cX2_init 25 = .ok (.return_, 1) := by decide +kernel
theorem dX2_lay_0 : decode cX2_lay 0 = .ok (.aload_n 0, 1) := by decide +kernel
theorem dX2_lay_1 : decode cX2_lay 1 = .ok (.iload_n 1, 1) := by decide +kernel
theorem dX2_lay_2 : decode cX2_lay 2 = .ok (.putfield 15, 3) := by decide +kernel
theorem dX2_lay_5 : decode cX2_lay 5 = .ok (.aload_n 0, 1) := by decide +kernel
theorem dX2_lay_6 : decode cX2_lay 6 = .ok (.iload_n 2, 1) := by decide +kernel
theorem dX2_lay_7 : decode cX2_lay 7 = .ok (.putfield 19, 3) := by decide +kernel
theorem dX2_lay_10 : decode cX2_lay 10 = .ok (.iconst 0, 1) := by decide +kernel
theorem dX2_lay_11 : decode cX2_lay 11 = .ok (.istore_n 3, 1) := by decide +kernel
theorem dX2_lay_12 : decode cX2_lay 12 = .ok (.iload_n 3, 1) := by decide +kernel
theorem dX2_lay_13 : decode cX2_lay 13 = .ok (.sipush 144, 3) := by decide +kernel
theorem dX2_lay_16 : decode cX2_lay 16 = .ok (.if_icmp .ge 16, 3) := by decide +kernel
theorem dX2_lay_19 : decode cX2_lay 19 = .ok (.aload_n 0, 1) := by decide +kernel
theorem dX2_lay_20 : decode cX2_lay 20 = .ok (.getfield 9, 3) := by decide +kernel
theorem dX2_lay_23 : decode cX2_lay 23 = .ok (.iload_n 3, 1) := by decide +kernel
theorem dX2_lay_24 : decode cX2_lay 24 = .ok (.iconst 0, 1) := by decide +kernel
theorem dX2_lay_25 : decode cX2_lay 25 = .ok (.bastore, 1) := by decide +kernel
theorem dX2_lay_26 : decode cX2_lay 26 = .ok (.iinc 3 1, 3) := by decide +kernel
theorem dX2_lay_29 : decode cX2_lay 29 = .ok (.goto (-17), 3) := by decide +kernel
theorem dX2_lay_32 : decode cX2_lay 32 = .ok (.return_, 1) := by decide +kernel
theorem dX2_width_0 : decode cX2_width 0 = .ok (.aload_n 0, 1) := by decide +kernel
theorem dX2_width_1 : decode cX2_width 1 = .ok (.getfield 15, 3) := by decide +kernel
theorem dX2_width_4 : decode cX2_width 4 = .ok (.ireturn, 1) := by decide +kernel
theorem dX2_height_0 : decode cX2_height 0 = .ok (.aload_n 0, 1) := by decide +kernel
theorem dX2_height_1 : decode cX2_height 1 = .ok (.getfield 19, 3) := by decide +kernel
theorem dX2_height_4 : decode cX2_height 4 = .ok (.ireturn, 1) := by decide +kernel
theorem dX2_fields_0 : decode cX2_fields 0 = .ok (.aload_n 0, 1) := by decide +kernel
theorem dX2_fields_1 : decode cX2_fields 1 = .ok (.getfield 15, 3) := by decide +kernel
theorem dX2_fields_4 : decode cX2_fields 4 = .ok (.aload_n 0, 1) := by decide +kernel
theorem dX2_fields_5 : decode cX2_fields 5 = .ok (.getfield 19, 3) := by decide +kernel
theorem dX2_fields_8 : decode cX2_fields 8 = .ok (.imul, 1) := by decide +kernel
theorem dX2_fields_9 : decode cX2_fields 9 = .ok (.ireturn, 1) := by decide +kernel
theorem dX2_members_0 : decode cX2_members 0 = .ok (.aload_n 0, 1) := by decide +kernel
theorem dX2_members_1 : decode cX2_members 1 = .ok (.getfield 9, 3) := by decide +kernel
theorem dX2_members_4 : decode cX2_members 4 = .ok (.areturn, 1) := by decide +kernel
set_option maxRecDepth 20000 in
theorem ggX2_knows_X2_fields : GoodIn wsX2_knows wsX2_fields := goodIn_r _ [5, 6, 7, 8, 9, 10] rfl (by decide +kernel)
set_option maxRecDepth 20000 in
theorem gX2_knows_X2_fields : GoodIn wsX2_knows (wsV RX2 22 RX2 yX2_fields wsX2_fields) := goodIn_app (goodIn_of _ (by decide +kernel)) ggX2_knows_X2_fields
theorem dX2_knows_0 : decode cX2_knows 0 = .ok (.iload_n 1, 1) := by decide +kernel
theorem dX2_knows_1 : decode cX2_knows 1 = .ok (.ifCond .lt 15, 3) := by decide +kernel
theorem dX2_knows_4 : decode cX2_knows 4 = .ok (.iload_n 1, 1) := by decide +kernel
theorem dX2_knows_5 : decode cX2_knows 5 = .ok (.aload_n 0, 1) := by decide +kernel
theorem dX2_knows_6 : decode cX2_knows 6 = .ok (.invokevirtual 22, 3) := by decide +kernel
theorem dX2_knows_9 : decode cX2_knows 9 = .ok (.if_icmp .ge 7, 3) := by decide +kernel
theorem dX2_knows_12 : decode cX2_knows 12 = .ok (.iconst 1, 1) := by decide +kernel
theorem dX2_knows_13 : decode cX2_knows 13 = .ok (.goto 4, 3) := by decide +kernel
theorem dX2_knows_16 : decode cX2_knows 16 = .ok (.iconst 0, 1) := by decide +kernel
theorem dX2_knows_17 : decode cX2_knows 17 = .ok (.ireturn, 1) := by decide +kernel
theorem dX2_columnOf_0 : decode cX2_columnOf 0 = .ok (.aload_n 0, 1) := by decide +kernel
theorem dX2_columnOf_1 : decode cX2_columnOf 1 = .ok (.getfield 15, 3) := by decide +kernel
theorem dX2_columnOf_4 : decode cX2_columnOf 4 = .ok (.ifCond .le 12, 3) := by decide +kernel
theorem dX2_columnOf_7 : decode cX2_columnOf 7 = .ok (.iload_n 1, 1) := by decide +kernel
theorem dX2_columnOf_8 : decode cX2_columnOf 8 = .ok (.aload_n 0, 1) := by decide +kernel
theorem dX2_columnOf_9 : decode cX2_columnOf 9 = .ok (.getfield 15, 3) := by decide +kernel
theorem dX2_columnOf_12 : decode cX2_columnOf 12 = .ok (.irem, 1) := by decide +kernel
theorem dX2_columnOf_13 : decode cX2_columnOf 13 = .ok (.goto 4, 3) := by decide +kernel
theorem dX2_columnOf_16 : decode cX2_columnOf 16 = .ok (.iconst 0, 1) := by decide +kernel
theorem dX2_columnOf_17 : decode cX2_columnOf 17 = .ok (.ireturn, 1) := by decide +kernel
theorem dX2_lineOf_0 : decode cX2_lineOf 0 = .ok (.aload_n 0, 1) := by decide +kernel
theorem dX2_lineOf_1 : decode cX2_lineOf 1 = .ok (.getfield 15, 3) := by decide +kernel
theorem dX2_lineOf_4 : decode cX2_lineOf 4 = .ok (.ifCond .le 12, 3) := by decide +kernel
theorem dX2_lineOf_7 : decode cX2_lineOf 7 = .ok (.iload_n 1, 1) := by decide +kernel
theorem dX2_lineOf_8 : decode cX2_lineOf 8 = .ok (.aload_n 0, 1) := by decide +kernel
theorem dX2_lineOf_9 : decode cX2_lineOf 9 = .ok (.getfield 15, 3) := by decide +kernel
theorem dX2_lineOf_12 : decode cX2_lineOf 12 = .ok (.idiv, 1) := by decide +kernel
theorem dX2_lineOf_13 : decode cX2_lineOf 13 = .ok (.goto 4, 3) := by decide +kernel
theorem dX2_lineOf_16 : decode cX2_lineOf 16 = .ok (.iconst 0, 1) := by decide +kernel
theorem dX2_lineOf_17 : decode cX2_lineOf 17 = .ok (.ireturn, 1) := by decide +kernel
theorem dX2_fieldAt_0 : decode cX2_fieldAt 0 = .ok (.iload_n 1, 1) := by decide +kernel
theorem dX2_fieldAt_1 : decode cX2_fieldAt 1 = .ok (.ifCond .lt 34, 3) := by decide +kernel
theorem dX2_fieldAt_4 : decode cX2_fieldAt 4 = .ok (.iload_n 1, 1) := by decide +kernel
theorem dX2_fieldAt_5 : decode cX2_fieldAt 5 = .ok (.aload_n 0, 1) := by decide +kernel
theorem dX2_fieldAt_6 : decode cX2_fieldAt 6 = .ok (.getfield 15, 3) := by decide +kernel
theorem dX2_fieldAt_9 : decode cX2_fieldAt 9 = .ok (.if_icmp .ge 26, 3) := by decide +kernel
theorem dX2_fieldAt_12 : decode cX2_fieldAt 12 = .ok (.iload_n 2, 1) := by decide +kernel
theorem dX2_fieldAt_13 : decode cX2_fieldAt 13 = .ok (.ifCond .lt 22, 3) := by decide +kernel
theorem dX2_fieldAt_16 : decode cX2_fieldAt 16 = .ok (.iload_n 2, 1) := by decide +kernel
theorem dX2_fieldAt_17 : decode cX2_fieldAt 17 = .ok (.aload_n 0, 1) := by decide +kernel
theorem dX2_fieldAt_18 : decode cX2_fieldAt 18 = .ok (.getfield 19, 3) := by decide +kernel
theorem dX2_fieldAt_21 : decode cX2_fieldAt 21 = .ok (.if_icmp .ge 14, 3) := by decide +kernel
theorem dX2_fieldAt_24 : decode cX2_fieldAt 24 = .ok (.iload_n 2, 1) := by decide +kernel
theorem dX2_fieldAt_25 : decode cX2_fieldAt 25 = .ok (.aload_n 0, 1) := by decide +kernel
theorem dX2_fieldAt_26 : decode cX2_fieldAt 26 = .ok (.getfield 15, 3) := by decide +kernel
theorem dX2_fieldAt_29 : decode cX2_fieldAt 29 = .ok (.imul, 1) := by decide +kernel
theorem dX2_fieldAt_30 : decode cX2_fieldAt 30 = .ok (.iload_n 1, 1) := by decide +kernel
theorem dX2_fieldAt_31 : decode cX2_fieldAt 31 = .ok (.iadd, 1) := by decide +kernel
theorem dX2_fieldAt_32 : decode cX2_fieldAt 32 = .ok (.goto 6, 3) := by decide +kernel
theorem dX2_fieldAt_35 : decode cX2_fieldAt 35 = .ok (.sipush (-999), 3) := by decide +kernel
theorem dX2_fieldAt_38 : decode cX2_fieldAt 38 = .ok (.ireturn, 1) := by decide +kernel
set_option maxRecDepth 20000 in
theorem ggX2_holds_X2_knows : GoodIn wsX2_holds wsX2_knows := goodIn_r _ [6, 7, 8, 9, 5, 10, 11, 12, 13, 14, 15] rfl (by decide +kernel)
set_option maxRecDepth 20000 in
theorem gX2_holds_X2_knows : GoodIn wsX2_holds (wsV RX2 26 RX2 yX2_knows wsX2_knows) := goodIn_app (goodIn_of _ (by decide +kernel)) ggX2_holds_X2_knows
theorem dX2_holds_0 : decode cX2_holds 0 = .ok (.aload_n 0, 1) := by decide +kernel
theorem dX2_holds_1 : decode cX2_holds 1 = .ok (.iload_n 1, 1) := by decide +kernel
theorem dX2_holds_2 : decode cX2_holds 2 = .ok (.invokevirtual 26, 3) := by decide +kernel
theorem dX2_holds_5 : decode cX2_holds 5 = .ok (.ifCond .eq 16, 3) := by decide +kernel
theorem dX2_holds_8 : decode cX2_holds 8 = .ok (.aload_n 0, 1) := by decide +kernel
theorem dX2_holds_9 : decode cX2_holds 9 = .ok (.getfield 9, 3) := by decide +kernel
theorem dX2_holds_12 : decode cX2_holds 12 = .ok (.iload_n 1, 1) := by decide +kernel
theorem dX2_holds_13 : decode cX2_holds 13 = .ok (.baload, 1) := by decide +kernel
theorem dX2_holds_14 : decode cX2_holds 14 = .ok (.ifCond .eq 7, 3) := by decide +kernel
theorem dX2_holds_17 : decode cX2_holds 17 = .ok (.iconst 1, 1) := by decide +kernel
theorem dX2_holds_18 : decode cX2_holds 18 = .ok (.goto 4, 3) := by decide +kernel
theorem dX2_holds_21 : decode cX2_holds 21 = .ok (.iconst 0, 1) := by decide +kernel
theorem dX2_holds_22 : decode cX2_holds 22 = .ok (.ireturn, 1) := by decide +kernel
set_option maxRecDepth 20000 in
theorem ggX2_holdsAt_X2_fieldAt : GoodIn wsX2_holdsAt wsX2_fieldAt := goodIn_r _ [5, 6, 7, 21, 22, 23] rfl (by decide +kernel)
set_option maxRecDepth 20000 in
theorem gX2_holdsAt_X2_fieldAt : GoodIn wsX2_holdsAt (wsV RX2 30 RX2 yX2_fieldAt wsX2_fieldAt) := goodIn_app (goodIn_of _ (by decide +kernel)) ggX2_holdsAt_X2_fieldAt
set_option maxRecDepth 20000 in
theorem ggX2_holdsAt_X2_holds : GoodIn wsX2_holdsAt wsX2_holds := goodIn_r _ [11, 12, 13, 14, 15, 4, 16, 17, 18, 19, 20, 6, 7, 21, 22, 23] rfl (by decide +kernel)
set_option maxRecDepth 20000 in
theorem gX2_holdsAt_X2_holds : GoodIn wsX2_holdsAt (wsV RX2 34 RX2 yX2_holds wsX2_holds) := goodIn_app (goodIn_of _ (by decide +kernel)) ggX2_holdsAt_X2_holds
theorem dX2_holdsAt_0 : decode cX2_holdsAt 0 = .ok (.aload_n 0, 1) := by decide +kernel
theorem dX2_holdsAt_1 : decode cX2_holdsAt 1 = .ok (.aload_n 0, 1) := by decide +kernel
theorem dX2_holdsAt_2 : decode cX2_holdsAt 2 = .ok (.iload_n 1, 1) := by decide +kernel
theorem dX2_holdsAt_3 : decode cX2_holdsAt 3 = .ok (.iload_n 2, 1) := by decide +kernel
theorem dX2_holdsAt_4 : decode cX2_holdsAt 4 = .ok (.invokevirtual 30, 3) := by decide +kernel
theorem dX2_holdsAt_7 : decode cX2_holdsAt 7 = .ok (.invokevirtual 34, 3) := by decide +kernel
theorem dX2_holdsAt_10 : decode cX2_holdsAt 10 = .ok (.ireturn, 1) := by decide +kernel
set_option maxRecDepth 20000 in
theorem ggX2_put_X2_knows : GoodIn wsX2_put wsX2_knows := goodIn_r _ [6, 7, 8, 9, 5, 10, 11, 12, 13, 14, 15] rfl (by decide +kernel)
set_option maxRecDepth 20000 in
theorem gX2_put_X2_knows : GoodIn wsX2_put (wsV RX2 26 RX2 yX2_knows wsX2_knows) := goodIn_app (goodIn_of _ (by decide +kernel)) ggX2_put_X2_knows
theorem dX2_put_0 : decode cX2_put 0 = .ok (.aload_n 0, 1) := by decide +kernel
theorem dX2_put_1 : decode cX2_put 1 = .ok (.iload_n 1, 1) := by decide +kernel
theorem dX2_put_2 : decode cX2_put 2 = .ok (.invokevirtual 26, 3) := by decide +kernel
theorem dX2_put_5 : decode cX2_put 5 = .ok (.ifCond .eq 10, 3) := by decide +kernel
theorem dX2_put_8 : decode cX2_put 8 = .ok (.aload_n 0, 1) := by decide +kernel
theorem dX2_put_9 : decode cX2_put 9 = .ok (.getfield 9, 3) := by decide +kernel
theorem dX2_put_12 : decode cX2_put 12 = .ok (.iload_n 1, 1) := by decide +kernel
theorem dX2_put_13 : decode cX2_put 13 = .ok (.iload_n 2, 1) := by decide +kernel
theorem dX2_put_14 : decode cX2_put 14 = .ok (.bastore, 1) := by decide +kernel
theorem dX2_put_15 : decode cX2_put 15 = .ok (.return_, 1) := by decide +kernel
set_option maxRecDepth 20000 in
theorem ggX2_onEdge_X2_columnOf : GoodIn wsX2_onEdge wsX2_columnOf := goodIn_r _ [7, 1, 12, 13, 14] rfl (by decide +kernel)
set_option maxRecDepth 20000 in
theorem gX2_onEdge_X2_columnOf : GoodIn wsX2_onEdge (wsV RX2 37 RX2 yX2_columnOf wsX2_columnOf) := goodIn_app (goodIn_of _ (by decide +kernel)) ggX2_onEdge_X2_columnOf
set_option maxRecDepth 20000 in
theorem ggX2_onEdge_X2_lineOf : GoodIn wsX2_onEdge wsX2_lineOf := goodIn_r _ [11, 1, 12, 13, 14] rfl (by decide +kernel)
set_option maxRecDepth 20000 in
theorem gX2_onEdge_X2_lineOf : GoodIn wsX2_onEdge (wsV RX2 41 RX2 yX2_lineOf wsX2_lineOf) := goodIn_app (goodIn_of _ (by decide +kernel)) ggX2_onEdge_X2_lineOf
theorem dX2_onEdge_0 : decode cX2_onEdge 0 = .ok (.aload_n 0, 1) := by decide +kernel
theorem dX2_onEdge_1 : decode cX2_onEdge 1 = .ok (.iload_n 1, 1) := by decide +kernel
theorem dX2_onEdge_2 : decode cX2_onEdge 2 = .ok (.invokevirtual 37, 3) := by decide +kernel
theorem dX2_onEdge_5 : decode cX2_onEdge 5 = .ok (.istore_n 2, 1) := by decide +kernel
theorem dX2_onEdge_6 : decode cX2_onEdge 6 = .ok (.aload_n 0, 1) := by decide +kernel
theorem dX2_onEdge_7 : decode cX2_onEdge 7 = .ok (.iload_n 1, 1) := by decide +kernel
theorem dX2_onEdge_8 : decode cX2_onEdge 8 = .ok (.invokevirtual 41, 3) := by decide +kernel
theorem dX2_onEdge_11 : decode cX2_onEdge 11 = .ok (.istore_n 3, 1) := by decide +kernel
theorem dX2_onEdge_12 : decode cX2_onEdge 12 = .ok (.iload_n 2, 1) := by decide +kernel
theorem dX2_onEdge_13 : decode cX2_onEdge 13 = .ok (.ifCond .eq 27, 3) := by decide +kernel
theorem dX2_onEdge_16 : decode cX2_onEdge 16 = .ok (.iload_n 3, 1) := by decide +kernel
theorem dX2_onEdge_17 : decode cX2_onEdge 17 = .ok (.ifCond .eq 23, 3) := by decide +kernel
theorem dX2_onEdge_20 : decode cX2_onEdge 20 = .ok (.iload_n 2, 1) := by decide +kernel
theorem dX2_onEdge_21 : decode cX2_onEdge 21 = .ok (.aload_n 0, 1) := by decide +kernel
theorem dX2_onEdge_22 : decode cX2_onEdge 22 = .ok (.getfield 15, 3) := by decide +kernel
theorem dX2_onEdge_25 : decode cX2_onEdge 25 = .ok (.iconst 1, 1) := by decide +kernel
theorem dX2_onEdge_26 : decode cX2_onEdge 26 = .ok (.isub, 1) := by decide +kernel
theorem dX2_onEdge_27 : decode cX2_onEdge 27 = .ok (.if_icmp .eq 13, 3) := by decide +kernel
theorem dX2_onEdge_30 : decode cX2_onEdge 30 = .ok (.iload_n 3, 1) := by decide +kernel
theorem dX2_onEdge_31 : decode cX2_onEdge 31 = .ok (.aload_n 0, 1) := by decide +kernel
theorem dX2_onEdge_32 : decode cX2_onEdge 32 = .ok (.getfield 19, 3) := by decide +kernel
theorem dX2_onEdge_35 : decode cX2_onEdge 35 = .ok (.iconst 1, 1) := by decide +kernel
theorem dX2_onEdge_36 : decode cX2_onEdge 36 = .ok (.isub, 1) := by decide +kernel
theorem dX2_onEdge_37 : decode cX2_onEdge 37 = .ok (.if_icmp .ne 7, 3) := by decide +kernel
theorem dX2_onEdge_40 : decode cX2_onEdge 40 = .ok (.iconst 1, 1) := by decide +kernel
theorem dX2_onEdge_41 : decode cX2_onEdge 41 = .ok (.goto 4, 3) := by decide +kernel
theorem dX2_onEdge_44 : decode cX2_onEdge 44 = .ok (.iconst 0, 1) := by decide +kernel
theorem dX2_onEdge_45 : decode cX2_onEdge 45 = .ok (.ireturn, 1) := by decide +kernel
set_option maxRecDepth 20000 in
theorem ggX2_heapSize_X2_fields : GoodIn wsX2_heapSize wsX2_fields := goodIn_r _ [5, 6, 7, 17, 18, 19] rfl (by decide +kernel)
set_option maxRecDepth 20000 in
theorem gX2_heapSize_X2_fields : GoodIn wsX2_heapSize (wsV RX2 22 RX2 yX2_fields wsX2_fields) := goodIn_app (goodIn_of _ (by decide +kernel)) ggX2_heapSize_X2_fields
set_option maxRecDepth 20000 in
theorem ggX2_heapSize_X2_holds : GoodIn wsX2_heapSize wsX2_holds := goodIn_r _ [11, 12, 13, 14, 15, 4, 16, 1, 2, 3, 5, 6, 7, 17, 18, 19] rfl (by decide +kernel)
set_option maxRecDepth 20000 in
theorem gX2_heapSize_X2_holds : GoodIn wsX2_heapSize (wsV RX2 34 RX2 yX2_holds wsX2_holds) := goodIn_app (goodIn_of _ (by decide +kernel)) ggX2_heapSize_X2_holds
theorem dX2_heapSize_0 : decode cX2_heapSize 0 = .ok (.iconst 0, 1) := by decide +kernel
theorem dX2_heapSize_1 : decode cX2_heapSize 1 = .ok (.istore_n 1, 1) := by decide +kernel
theorem dX2_heapSize_2 : decode cX2_heapSize 2 = .ok (.iconst 0, 1) := by decide +kernel
theorem dX2_heapSize_3 : decode cX2_heapSize 3 = .ok (.istore_n 2, 1) := by decide +kernel
theorem dX2_heapSize_4 : decode cX2_heapSize 4 = .ok (.iload_n 2, 1) := by decide +kernel
theorem dX2_heapSize_5 : decode cX2_heapSize 5 = .ok (.aload_n 0, 1) := by decide +kernel
theorem dX2_heapSize_6 : decode cX2_heapSize 6 = .ok (.invokevirtual 22, 3) := by decide +kernel
theorem dX2_heapSize_9 : decode cX2_heapSize 9 = .ok (.if_icmp .ge 20, 3) := by decide +kernel
theorem dX2_heapSize_12 : decode cX2_heapSize 12 = .ok (.aload_n 0, 1) := by decide +kernel
theorem dX2_heapSize_13 : decode cX2_heapSize 13 = .ok (.iload_n 2, 1) := by decide +kernel
theorem dX2_heapSize_14 : decode cX2_heapSize 14 = .ok (.invokevirtual 34, 3) := by decide +kernel
theorem dX2_heapSize_17 : decode cX2_heapSize 17 = .ok (.ifCond .eq 6, 3) := by decide +kernel
theorem dX2_heapSize_20 : decode cX2_heapSize 20 = .ok (.iinc 1 1, 3) := by decide +kernel
theorem dX2_heapSize_23 : decode cX2_heapSize 23 = .ok (.iinc 2 1, 3) := by decide +kernel
theorem dX2_heapSize_26 : decode cX2_heapSize 26 = .ok (.goto (-22), 3) := by decide +kernel
theorem dX2_heapSize_29 : decode cX2_heapSize 29 = .ok (.iload_n 1, 1) := by decide +kernel
theorem dX2_heapSize_30 : decode cX2_heapSize 30 = .ok (.ireturn, 1) := by decide +kernel
set_option maxRecDepth 20000 in
theorem ggX2_heapOnEdge_X2_fields : GoodIn wsX2_heapOnEdge wsX2_fields := goodIn_r _ [5, 6, 7, 29, 30, 31] rfl (by decide +kernel)
set_option maxRecDepth 20000 in
theorem gX2_heapOnEdge_X2_fields : GoodIn wsX2_heapOnEdge (wsV RX2 22 RX2 yX2_fields wsX2_fields) := goodIn_app (goodIn_of _ (by decide +kernel)) ggX2_heapOnEdge_X2_fields
set_option maxRecDepth 20000 in
theorem ggX2_heapOnEdge_X2_holds : GoodIn wsX2_heapOnEdge wsX2_holds := goodIn_r _ [11, 12, 13, 14, 15, 4, 16, 1, 2, 3, 5, 6, 7, 29, 30, 31] rfl (by decide +kernel)
set_option maxRecDepth 20000 in
theorem gX2_heapOnEdge_X2_holds : GoodIn wsX2_heapOnEdge (wsV RX2 34 RX2 yX2_holds wsX2_holds) := goodIn_app (goodIn_of _ (by decide +kernel)) ggX2_heapOnEdge_X2_holds
set_option maxRecDepth 20000 in
theorem ggX2_heapOnEdge_X2_onEdge : GoodIn wsX2_heapOnEdge wsX2_onEdge := goodIn_r _ [20, 6, 7, 21, 22, 23, 4, 24, 25, 26, 27, 28, 29, 30, 31] rfl (by decide +kernel)
set_option maxRecDepth 20000 in
theorem gX2_heapOnEdge_X2_onEdge : GoodIn wsX2_heapOnEdge (wsV RX2 44 RX2 yX2_onEdge wsX2_onEdge) := goodIn_app (goodIn_of _ (by decide +kernel)) ggX2_heapOnEdge_X2_onEdge
theorem dX2_heapOnEdge_0 : decode cX2_heapOnEdge 0 = .ok (.iconst 0, 1) := by decide +kernel
theorem dX2_heapOnEdge_1 : decode cX2_heapOnEdge 1 = .ok (.istore_n 1, 1) := by decide +kernel
theorem dX2_heapOnEdge_2 : decode cX2_heapOnEdge 2 = .ok (.iconst 0, 1) := by decide +kernel
theorem dX2_heapOnEdge_3 : decode cX2_heapOnEdge 3 = .ok (.istore_n 2, 1) := by decide +kernel
theorem dX2_heapOnEdge_4 : decode cX2_heapOnEdge 4 = .ok (.iload_n 2, 1) := by decide +kernel
theorem dX2_heapOnEdge_5 : decode cX2_heapOnEdge 5 = .ok (.aload_n 0, 1) := by decide +kernel
theorem dX2_heapOnEdge_6 : decode cX2_heapOnEdge 6 = .ok (.invokevirtual 22, 3) := by decide +kernel
theorem dX2_heapOnEdge_9 : decode cX2_heapOnEdge 9 = .ok (.if_icmp .ge 28, 3) := by decide +kernel
theorem dX2_heapOnEdge_12 : decode cX2_heapOnEdge 12 = .ok (.aload_n 0, 1) := by decide +kernel
theorem dX2_heapOnEdge_13 : decode cX2_heapOnEdge 13 = .ok (.iload_n 2, 1) := by decide +kernel
theorem dX2_heapOnEdge_14 : decode cX2_heapOnEdge 14 = .ok (.invokevirtual 34, 3) := by decide +kernel
theorem dX2_heapOnEdge_17 : decode cX2_heapOnEdge 17 = .ok (.ifCond .eq 14, 3) := by decide +kernel
theorem dX2_heapOnEdge_20 : decode cX2_heapOnEdge 20 = .ok (.aload_n 0, 1) := by decide +kernel
theorem dX2_heapOnEdge_21 : decode cX2_heapOnEdge 21 = .ok (.iload_n 2, 1) := by decide +kernel
theorem dX2_heapOnEdge_22 : decode cX2_heapOnEdge 22 = .ok (.invokevirtual 44, 3) := by decide +kernel
theorem dX2_heapOnEdge_25 : decode cX2_heapOnEdge 25 = .ok (.ifCond .eq 6, 3) := by decide +kernel
theorem dX2_heapOnEdge_28 : decode cX2_heapOnEdge 28 = .ok (.iinc 1 1, 3) := by decide +kernel
theorem dX2_heapOnEdge_31 : decode cX2_heapOnEdge 31 = .ok (.iinc 2 1, 3) := by decide +kernel
theorem dX2_heapOnEdge_34 : decode cX2_heapOnEdge 34 = .ok (.goto (-30), 3) := by decide +kernel
theorem dX2_heapOnEdge_37 : decode cX2_heapOnEdge 37 = .ok (.iload_n 1, 1) := by decide +kernel
theorem dX2_heapOnEdge_38 : decode cX2_heapOnEdge 38 = .ok (.ireturn, 1) := by decide +kernel
set_option maxRecDepth 20000 in
theorem ggX2_rims_X2_fields : GoodIn wsX2_rims wsX2_fields := goodIn_r _ [5, 6, 7, 44, 45, 46] rfl (by decide +kernel)
set_option maxRecDepth 20000 in
theorem gX2_rims_X2_fields : GoodIn wsX2_rims (wsV RX2 22 RX2 yX2_fields wsX2_fields) := goodIn_app (goodIn_of _ (by decide +kernel)) ggX2_rims_X2_fields
set_option maxRecDepth 20000 in
theorem ggX2_rims_X2_holds : GoodIn wsX2_rims wsX2_holds := goodIn_r _ [11, 12, 13, 14, 15, 4, 16, 1, 2, 3, 5, 6, 7, 44, 45, 46] rfl (by decide +kernel)
set_option maxRecDepth 20000 in
theorem gX2_rims_X2_holds : GoodIn wsX2_rims (wsV RX2 34 RX2 yX2_holds wsX2_holds) := goodIn_app (goodIn_of _ (by decide +kernel)) ggX2_rims_X2_holds
set_option maxRecDepth 20000 in
theorem ggX2_rims_X2_eightAbout : GoodIn wsX2_rims wsX2_eightAbout := goodIn_r _ [20, 21, 22, 23, 4, 24, 6, 25, 26, 27, 28, 29, 30, 31, 32, 33, 34, 35, 36, 7, 8, 9, 10, 11, 12, 13, 14, 15, 16, 1, 2, 3, 5, 44, 45, 46] rfl (by decide +kernel)
set_option maxRecDepth 20000 in
theorem gX2_rims_X2_eightAbout : GoodIn wsX2_rims (wsV RX2 47 RX2 yX2_eightAbout wsX2_eightAbout) := goodIn_app (goodIn_of _ (by decide +kernel)) ggX2_rims_X2_eightAbout
set_option maxRecDepth 20000 in
theorem ggX2_rims_J6_bitCount_0f7a4 : GoodIn wsX2_rims wsJ6_bitCount_0f7a4 := goodIn_r _ [40, 41, 42, 43] rfl (by decide +kernel)
set_option maxRecDepth 20000 in
theorem gX2_rims_J6_bitCount_0f7a4 : GoodIn wsX2_rims (va_wsS RX2 50 yJ6_bitCount_0f7a4 wsJ6_bitCount_0f7a4) := goodIn_app (goodIn_of _ (by decide +kernel)) ggX2_rims_J6_bitCount_0f7a4
theorem dX2_rims_0 : decode cX2_rims 0 = .ok (.iconst 0, 1) := by decide +kernel
theorem dX2_rims_1 : decode cX2_rims 1 = .ok (.istore_n 1, 1) := by decide +kernel
theorem dX2_rims_2 : decode cX2_rims 2 = .ok (.iconst 0, 1) := by decide +kernel
theorem dX2_rims_3 : decode cX2_rims 3 = .ok (.istore_n 2, 1) := by decide +kernel
theorem dX2_rims_4 : decode cX2_rims 4 = .ok (.iload_n 2, 1) := by decide +kernel
theorem dX2_rims_5 : decode cX2_rims 5 = .ok (.aload_n 0, 1) := by decide +kernel
theorem dX2_rims_6 : decode cX2_rims 6 = .ok (.invokevirtual 22, 3) := by decide +kernel
theorem dX2_rims_9 : decode cX2_rims 9 = .ok (.if_icmp .ge 33, 3) := by decide +kernel
theorem dX2_rims_12 : decode cX2_rims 12 = .ok (.aload_n 0, 1) := by decide +kernel
theorem dX2_rims_13 : decode cX2_rims 13 = .ok (.iload_n 2, 1) := by decide +kernel
theorem dX2_rims_14 : decode cX2_rims 14 = .ok (.invokevirtual 34, 3) := by decide +kernel
theorem dX2_rims_17 : decode cX2_rims 17 = .ok (.ifCond .eq 19, 3) := by decide +kernel
theorem dX2_rims_20 : decode cX2_rims 20 = .ok (.iload_n 1, 1) := by decide +kernel
theorem dX2_rims_21 : decode cX2_rims 21 = .ok (.iconst 4, 1) := by decide +kernel
theorem dX2_rims_22 : decode cX2_rims 22 = .ok (.aload_n 0, 1) := by decide +kernel
theorem dX2_rims_23 : decode cX2_rims 23 = .ok (.iload_n 2, 1) := by decide +kernel
theorem dX2_rims_24 : decode cX2_rims 24 = .ok (.invokevirtual 47, 3) := by decide +kernel
theorem dX2_rims_27 : decode cX2_rims 27 = .ok (.bipush 85, 2) := by decide +kernel
theorem dX2_rims_29 : decode cX2_rims 29 = .ok (.iand, 1) := by decide +kernel
theorem dX2_rims_30 : decode cX2_rims 30 = .ok (.invokestatic 50, 3) := by decide +kernel
theorem dX2_rims_33 : decode cX2_rims 33 = .ok (.isub, 1) := by decide +kernel
theorem dX2_rims_34 : decode cX2_rims 34 = .ok (.iadd, 1) := by decide +kernel
theorem dX2_rims_35 : decode cX2_rims 35 = .ok (.istore_n 1, 1) := by decide +kernel
theorem dX2_rims_36 : decode cX2_rims 36 = .ok (.iinc 2 1, 3) := by decide +kernel
theorem dX2_rims_39 : decode cX2_rims 39 = .ok (.goto (-35), 3) := by decide +kernel
theorem dX2_rims_42 : decode cX2_rims 42 = .ok (.iload_n 1, 1) := by decide +kernel
theorem dX2_rims_43 : decode cX2_rims 43 = .ok (.ireturn, 1) := by decide +kernel
set_option maxRecDepth 20000 in
theorem ggX2_eightAbout_X2_columnOf : GoodIn wsX2_eightAbout wsX2_columnOf := goodIn_r _ [5, 6, 33, 34, 35] rfl (by decide +kernel)
set_option maxRecDepth 20000 in
theorem gX2_eightAbout_X2_columnOf : GoodIn wsX2_eightAbout (wsV RX2 37 RX2 yX2_columnOf wsX2_columnOf) := goodIn_app (goodIn_of _ (by decide +kernel)) ggX2_eightAbout_X2_columnOf
set_option maxRecDepth 20000 in
theorem ggX2_eightAbout_X2_lineOf : GoodIn wsX2_eightAbout wsX2_lineOf := goodIn_r _ [10, 6, 33, 34, 35] rfl (by decide +kernel)
set_option maxRecDepth 20000 in
theorem gX2_eightAbout_X2_lineOf : GoodIn wsX2_eightAbout (wsV RX2 41 RX2 yX2_lineOf wsX2_lineOf) := goodIn_app (goodIn_of _ (by decide +kernel)) ggX2_eightAbout_X2_lineOf
set_option maxRecDepth 20000 in
theorem ggX2_eightAbout_X2_holdsAt : GoodIn wsX2_eightAbout wsX2_holdsAt := goodIn_r _ [14, 15, 16, 17, 4, 18, 6, 19, 20, 21, 22, 23, 24, 25, 26, 27, 28, 29, 30, 31, 32, 33, 34, 35] rfl (by decide +kernel)
set_option maxRecDepth 20000 in
theorem gX2_eightAbout_X2_holdsAt : GoodIn wsX2_eightAbout (wsV RX2 62 RX2 yX2_holdsAt wsX2_holdsAt) := goodIn_app (goodIn_of _ (by decide +kernel)) ggX2_eightAbout_X2_holdsAt
theorem dX2_eightAbout_0 : decode cX2_eightAbout 0 = .ok (.aload_n 0, 1) := by decide +kernel
theorem dX2_eightAbout_1 : decode cX2_eightAbout 1 = .ok (.iload_n 1, 1) := by decide +kernel
theorem dX2_eightAbout_2 : decode cX2_eightAbout 2 = .ok (.invokevirtual 37, 3) := by decide +kernel
theorem dX2_eightAbout_5 : decode cX2_eightAbout 5 = .ok (.istore_n 2, 1) := by decide +kernel
theorem dX2_eightAbout_6 : decode cX2_eightAbout 6 = .ok (.aload_n 0, 1) := by decide +kernel
theorem dX2_eightAbout_7 : decode cX2_eightAbout 7 = .ok (.iload_n 1, 1) := by decide +kernel
theorem dX2_eightAbout_8 : decode cX2_eightAbout 8 = .ok (.invokevirtual 41, 3) := by decide +kernel
theorem dX2_eightAbout_11 : decode cX2_eightAbout 11 = .ok (.istore_n 3, 1) := by decide +kernel
theorem dX2_eightAbout_12 : decode cX2_eightAbout 12 = .ok (.iconst 0, 1) := by decide +kernel
theorem dX2_eightAbout_13 : decode cX2_eightAbout 13 = .ok (.istore 4, 2) := by decide +kernel
theorem dX2_eightAbout_15 : decode cX2_eightAbout 15 = .ok (.iconst 0, 1) := by decide +kernel
theorem dX2_eightAbout_16 : decode cX2_eightAbout 16 = .ok (.istore 5, 2) := by decide +kernel
theorem dX2_eightAbout_18 : decode cX2_eightAbout 18 = .ok (.iload 5, 2) := by decide +kernel
theorem dX2_eightAbout_20 : decode cX2_eightAbout 20 = .ok (.bipush 8, 2) := by decide +kernel
theorem dX2_eightAbout_22 : decode cX2_eightAbout 22 = .ok (.if_icmp .ge 41, 3) := by decide +kernel
theorem dX2_eightAbout_25 : decode cX2_eightAbout 25 = .ok (.aload_n 0, 1) := by decide +kernel
theorem dX2_eightAbout_26 : decode cX2_eightAbout 26 = .ok (.iload_n 2, 1) := by decide +kernel
theorem dX2_eightAbout_27 : decode cX2_eightAbout 27 = .ok (.getstatic 55, 3) := by decide +kernel
theorem dX2_eightAbout_30 : decode cX2_eightAbout 30 = .ok (.iload 5, 2) := by decide +kernel
theorem dX2_eightAbout_32 : decode cX2_eightAbout 32 = .ok (.iaload, 1) := by decide +kernel
theorem dX2_eightAbout_33 : decode cX2_eightAbout 33 = .ok (.iadd, 1) := by decide +kernel
theorem dX2_eightAbout_34 : decode cX2_eightAbout 34 = .ok (.iload_n 3, 1) := by decide +kernel
theorem dX2_eightAbout_35 : decode cX2_eightAbout 35 = .ok (.getstatic 59, 3) := by decide +kernel
theorem dX2_eightAbout_38 : decode cX2_eightAbout 38 = .ok (.iload 5, 2) := by decide +kernel
theorem dX2_eightAbout_40 : decode cX2_eightAbout 40 = .ok (.iaload, 1) := by decide +kernel
theorem dX2_eightAbout_41 : decode cX2_eightAbout 41 = .ok (.iadd, 1) := by decide +kernel
theorem dX2_eightAbout_42 : decode cX2_eightAbout 42 = .ok (.invokevirtual 62, 3) := by decide +kernel
theorem dX2_eightAbout_45 : decode cX2_eightAbout 45 = .ok (.ifCond .eq 12, 3) := by decide +kernel
theorem dX2_eightAbout_48 : decode cX2_eightAbout 48 = .ok (.iload 4, 2) := by decide +kernel
theorem dX2_eightAbout_50 : decode cX2_eightAbout 50 = .ok (.iconst 1, 1) := by decide +kernel
theorem dX2_eightAbout_51 : decode cX2_eightAbout 51 = .ok (.iload 5, 2) := by decide +kernel
theorem dX2_eightAbout_53 : decode cX2_eightAbout 53 = .ok (.ishl, 1) := by decide +kernel
theorem dX2_eightAbout_54 : decode cX2_eightAbout 54 = .ok (.ior, 1) := by decide +kernel
theorem dX2_eightAbout_55 : decode cX2_eightAbout 55 = .ok (.istore 4, 2) := by decide +kernel
theorem dX2_eightAbout_57 : decode cX2_eightAbout 57 = .ok (.iinc 5 1, 3) := by decide +kernel
theorem dX2_eightAbout_60 : decode cX2_eightAbout 60 = .ok (.goto (-42), 3) := by decide +kernel
theorem dX2_eightAbout_63 : decode cX2_eightAbout 63 = .ok (.iload 4, 2) := by decide +kernel
theorem dX2_eightAbout_65 : decode cX2_eightAbout 65 = .ok (.ireturn, 1) := by decide +kernel
set_option maxRecDepth 20000 in
theorem ggX2_hasStairs_X2_runsFrom : GoodIn wsX2_hasStairs wsX2_runsFrom := goodIn_r _ [7, 8, 9, 10, 6, 11, 12, 13, 14, 15, 1, 2, 16, 17, 18, 19, 20, 21, 22, 23, 24, 25, 26, 27, 28, 29, 30, 31] rfl (by decide +kernel)
set_option maxRecDepth 20000 in
theorem gX2_hasStairs_X2_runsFrom : GoodIn wsX2_hasStairs (wsV RX2 66 RX2 yX2_runsFrom wsX2_runsFrom) := goodIn_app (goodIn_of _ (by decide +kernel)) ggX2_hasStairs_X2_runsFrom
theorem dX2_hasStairs_0 : decode cX2_hasStairs 0 = .ok (.iconst 0, 1) := by decide +kernel
theorem dX2_hasStairs_1 : decode cX2_hasStairs 1 = .ok (.istore_n 1, 1) := by decide +kernel
theorem dX2_hasStairs_2 : decode cX2_hasStairs 2 = .ok (.iload_n 1, 1) := by decide +kernel
theorem dX2_hasStairs_3 : decode cX2_hasStairs 3 = .ok (.aload_n 0, 1) := by decide +kernel
theorem dX2_hasStairs_4 : decode cX2_hasStairs 4 = .ok (.getfield 15, 3) := by decide +kernel
theorem dX2_hasStairs_7 : decode cX2_hasStairs 7 = .ok (.if_icmp .ge 22, 3) := by decide +kernel
theorem dX2_hasStairs_10 : decode cX2_hasStairs 10 = .ok (.aload_n 0, 1) := by decide +kernel
theorem dX2_hasStairs_11 : decode cX2_hasStairs 11 = .ok (.iload_n 1, 1) := by decide +kernel
theorem dX2_hasStairs_12 : decode cX2_hasStairs 12 = .ok (.iconst 0, 1) := by decide +kernel
theorem dX2_hasStairs_13 : decode cX2_hasStairs 13 = .ok (.iconst 2, 1) := by decide +kernel
theorem dX2_hasStairs_14 : decode cX2_hasStairs 14 = .ok (.invokevirtual 66, 3) := by decide +kernel
theorem dX2_hasStairs_17 : decode cX2_hasStairs 17 = .ok (.iconst 1, 1) := by decide +kernel
theorem dX2_hasStairs_18 : decode cX2_hasStairs 18 = .ok (.if_icmp .le 5, 3) := by decide +kernel
theorem dX2_hasStairs_21 : decode cX2_hasStairs 21 = .ok (.iconst 0, 1) := by decide +kernel
theorem dX2_hasStairs_22 : decode cX2_hasStairs 22 = .ok (.ireturn, 1) := by decide +kernel
theorem dX2_hasStairs_23 : decode cX2_hasStairs 23 = .ok (.iinc 1 1, 3) := by decide +kernel
theorem dX2_hasStairs_26 : decode cX2_hasStairs 26 = .ok (.goto (-24), 3) := by decide +kernel
theorem dX2_hasStairs_29 : decode cX2_hasStairs 29 = .ok (.iconst 0, 1) := by decide +kernel
theorem dX2_hasStairs_30 : decode cX2_hasStairs 30 = .ok (.istore_n 1, 1) := by decide +kernel
theorem dX2_hasStairs_31 : decode cX2_hasStairs 31 = .ok (.iload_n 1, 1) := by decide +kernel
theorem dX2_hasStairs_32 : decode cX2_hasStairs 32 = .ok (.aload_n 0, 1) := by decide +kernel
theorem dX2_hasStairs_33 : decode cX2_hasStairs 33 = .ok (.getfield 19, 3) := by decide +kernel
theorem dX2_hasStairs_36 : decode cX2_hasStairs 36 = .ok (.if_icmp .ge 22, 3) := by decide +kernel
theorem dX2_hasStairs_39 : decode cX2_hasStairs 39 = .ok (.aload_n 0, 1) := by decide +kernel
theorem dX2_hasStairs_40 : decode cX2_hasStairs 40 = .ok (.iconst 0, 1) := by decide +kernel
theorem dX2_hasStairs_41 : decode cX2_hasStairs 41 = .ok (.iload_n 1, 1) := by decide +kernel
theorem dX2_hasStairs_42 : decode cX2_hasStairs 42 = .ok (.iconst 0, 1) := by decide +kernel
theorem dX2_hasStairs_43 : decode cX2_hasStairs 43 = .ok (.invokevirtual 66, 3) := by decide +kernel
theorem dX2_hasStairs_46 : decode cX2_hasStairs 46 = .ok (.iconst 1, 1) := by decide +kernel
theorem dX2_hasStairs_47 : decode cX2_hasStairs 47 = .ok (.if_icmp .le 5, 3) := by decide +kernel
theorem dX2_hasStairs_50 : decode cX2_hasStairs 50 = .ok (.iconst 0, 1) := by decide +kernel
theorem dX2_hasStairs_51 : decode cX2_hasStairs 51 = .ok (.ireturn, 1) := by decide +kernel
theorem dX2_hasStairs_52 : decode cX2_hasStairs 52 = .ok (.iinc 1 1, 3) := by decide +kernel
theorem dX2_hasStairs_55 : decode cX2_hasStairs 55 = .ok (.goto (-24), 3) := by decide +kernel
theorem dX2_hasStairs_58 : decode cX2_hasStairs 58 = .ok (.iconst 1, 1) := by decide +kernel
theorem dX2_hasStairs_59 : decode cX2_hasStairs 59 = .ok (.ireturn, 1) := by decide +kernel
set_option maxRecDepth 20000 in
theorem ggX2_runsFrom_X2_holdsAt : GoodIn wsX2_runsFrom wsX2_holdsAt := goodIn_r _ [5, 6, 7, 8, 4, 9, 10, 11, 12, 13, 14, 15, 16, 17, 18, 19, 20, 21, 22, 23, 24, 25, 26, 27] rfl (by decide +kernel)
set_option maxRecDepth 20000 in
theorem gX2_runsFrom_X2_holdsAt : GoodIn wsX2_runsFrom (wsV RX2 62 RX2 yX2_holdsAt wsX2_holdsAt) := goodIn_app (goodIn_of _ (by decide +kernel)) ggX2_runsFrom_X2_holdsAt
theorem dX2_runsFrom_0 : decode cX2_runsFrom 0 = .ok (.iconst 0, 1) := by decide +kernel
theorem dX2_runsFrom_1 : decode cX2_runsFrom 1 = .ok (.istore 4, 2) := by decide +kernel
theorem dX2_runsFrom_3 : decode cX2_runsFrom 3 = .ok (.iconst 0, 1) := by decide +kernel
theorem dX2_runsFrom_4 : decode cX2_runsFrom 4 = .ok (.istore 5, 2) := by decide +kernel
theorem dX2_runsFrom_6 : decode cX2_runsFrom 6 = .ok (.iconst 0, 1) := by decide +kernel
theorem dX2_runsFrom_7 : decode cX2_runsFrom 7 = .ok (.istore 6, 2) := by decide +kernel
theorem dX2_runsFrom_9 : decode cX2_runsFrom 9 = .ok (.iload 6, 2) := by decide +kernel
theorem dX2_runsFrom_11 : decode cX2_runsFrom 11 = .ok (.bipush 12, 2) := by decide +kernel
theorem dX2_runsFrom_13 : decode cX2_runsFrom 13 = .ok (.if_icmp .ge 52, 3) := by decide +kernel
theorem dX2_runsFrom_16 : decode cX2_runsFrom 16 = .ok (.aload_n 0, 1) := by decide +kernel
theorem dX2_runsFrom_17 : decode cX2_runsFrom 17 = .ok (.iload_n 1, 1) := by decide +kernel
theorem dX2_runsFrom_18 : decode cX2_runsFrom 18 = .ok (.iload 6, 2) := by decide +kernel
theorem dX2_runsFrom_20 : decode cX2_runsFrom 20 = .ok (.getstatic 55, 3) := by decide +kernel
theorem dX2_runsFrom_23 : decode cX2_runsFrom 23 = .ok (.iload_n 3, 1) := by decide +kernel
theorem dX2_runsFrom_24 : decode cX2_runsFrom 24 = .ok (.iaload, 1) := by decide +kernel
theorem dX2_runsFrom_25 : decode cX2_runsFrom 25 = .ok (.imul, 1) := by decide +kernel
theorem dX2_runsFrom_26 : decode cX2_runsFrom 26 = .ok (.iadd, 1) := by decide +kernel
theorem dX2_runsFrom_27 : decode cX2_runsFrom 27 = .ok (.iload_n 2, 1) := by decide +kernel
theorem dX2_runsFrom_28 : decode cX2_runsFrom 28 = .ok (.iload 6, 2) := by decide +kernel
theorem dX2_runsFrom_30 : decode cX2_runsFrom 30 = .ok (.getstatic 59, 3) := by decide +kernel
theorem dX2_runsFrom_33 : decode cX2_runsFrom 33 = .ok (.iload_n 3, 1) := by decide +kernel
theorem dX2_runsFrom_34 : decode cX2_runsFrom 34 = .ok (.iaload, 1) := by decide +kernel
theorem dX2_runsFrom_35 : decode cX2_runsFrom 35 = .ok (.imul, 1) := by decide +kernel
theorem dX2_runsFrom_36 : decode cX2_runsFrom 36 = .ok (.iadd, 1) := by decide +kernel
theorem dX2_runsFrom_37 : decode cX2_runsFrom 37 = .ok (.invokevirtual 62, 3) := by decide +kernel
theorem dX2_runsFrom_40 : decode cX2_runsFrom 40 = .ok (.istore 7, 2) := by decide +kernel
theorem dX2_runsFrom_42 : decode cX2_runsFrom 42 = .ok (.iload 7, 2) := by decide +kernel
theorem dX2_runsFrom_44 : decode cX2_runsFrom 44 = .ok (.ifCond .eq 11, 3) := by decide +kernel
theorem dX2_runsFrom_47 : decode cX2_runsFrom 47 = .ok (.iload 5, 2) := by decide +kernel
theorem dX2_runsFrom_49 : decode cX2_runsFrom 49 = .ok (.ifCond .ne 6, 3) := by decide +kernel
theorem dX2_runsFrom_52 : decode cX2_runsFrom 52 = .ok (.iinc 4 1, 3) := by decide +kernel
theorem dX2_runsFrom_55 : decode cX2_runsFrom 55 = .ok (.iload 7, 2) := by decide +kernel
theorem dX2_runsFrom_57 : decode cX2_runsFrom 57 = .ok (.istore 5, 2) := by decide +kernel
theorem dX2_runsFrom_59 : decode cX2_runsFrom 59 = .ok (.iinc 6 1, 3) := by decide +kernel
theorem dX2_runsFrom_62 : decode cX2_runsFrom 62 = .ok (.goto (-53), 3) := by decide +kernel
theorem dX2_runsFrom_65 : decode cX2_runsFrom 65 = .ok (.iload 4, 2) := by decide +kernel
theorem dX2_runsFrom_67 : decode cX2_runsFrom 67 = .ok (.ireturn, 1) := by decide +kernel
theorem dX3_init_0 : decode cX3_init 0 = .ok (.aload_n 0, 1) := by decide +kernel
theorem dX3_init_1 : decode cX3_init 1 = .ok (.invokespecial 3, 3) := by decide +kernel
theorem dX3_init_4 : decode cX3_init 4 = .ok (.aload_n 0, 1) := by decide +kernel
theorem dX3_init_5 : decode cX3_init 5 = .ok (.bipush 24, 2) := by decide +kernel
theorem dX3_init_7 : decode cX3_init 7 = .ok (.newarray .int, 2) := by decide +kernel
theorem dX3_init_9 : decode cX3_init 9 = .ok (.putfield 11, 3) := by decide +kernel
theorem dX3_init_12 : decode cX3_init 12 = .ok (.aload_n 0, 1) := by decide +kernel
theorem dX3_init_13 : decode cX3_init 13 = .ok (.bipush 24, 2) := by decide +kernel
theorem dX3_init_15 : decode cX3_init 15 = .ok (.newarray .int, 2) := by decide +kernel
theorem dX3_init_17 : decode cX3_init 17 = .ok (.putfield 15, 3) := by decide +kernel
theorem dX3_init_20 : decode cX3_init 20 = .ok (.return_, 1) := by decide +kernel
theorem dX3_size_0 : decode cX3_size 0 = .ok (.aload_n 0, 1) := by decide +kernel
theorem dX3_size_1 : decode cX3_size 1 = .ok (.getfield 18, 3) := by decide +kernel
theorem dX3_size_4 : decode cX3_size 4 = .ok (.ireturn, 1) := by decide +kernel
set_option maxRecDepth 20000 in
theorem ggX3_fieldOf_X2_fieldAt : GoodIn wsX3_fieldOf wsX2_fieldAt := goodIn_r _ [8, 9, 10, 14, 15, 16] rfl (by decide +kernel)
set_option maxRecDepth 20000 in
theorem gX3_fieldOf_X2_fieldAt : GoodIn wsX3_fieldOf (wsV RX3 22 RX2 yX2_fieldAt wsX2_fieldAt) := goodIn_app (goodIn_of _ (by decide +kernel)) ggX3_fieldOf_X2_fieldAt
theorem dX3_fieldOf_0 : decode cX3_fieldOf 0 = .ok (.iload_n 2, 1) := by decide +kernel
theorem dX3_fieldOf_1 : decode cX3_fieldOf 1 = .ok (.ifCond .lt 30, 3) := by decide +kernel
theorem dX3_fieldOf_4 : decode cX3_fieldOf 4 = .ok (.iload_n 2, 1) := by decide +kernel
theorem dX3_fieldOf_5 : decode cX3_fieldOf 5 = .ok (.aload_n 0, 1) := by decide +kernel
theorem dX3_fieldOf_6 : decode cX3_fieldOf 6 = .ok (.getfield 18, 3) := by decide +kernel
theorem dX3_fieldOf_9 : decode cX3_fieldOf 9 = .ok (.if_icmp .ge 22, 3) := by decide +kernel
theorem dX3_fieldOf_12 : decode cX3_fieldOf 12 = .ok (.aload_n 1, 1) := by decide +kernel
theorem dX3_fieldOf_13 : decode cX3_fieldOf 13 = .ok (.aload_n 0, 1) := by decide +kernel
theorem dX3_fieldOf_14 : decode cX3_fieldOf 14 = .ok (.getfield 11, 3) := by decide +kernel
theorem dX3_fieldOf_17 : decode cX3_fieldOf 17 = .ok (.iload_n 2, 1) := by decide +kernel
theorem dX3_fieldOf_18 : decode cX3_fieldOf 18 = .ok (.iaload, 1) := by decide +kernel
theorem dX3_fieldOf_19 : decode cX3_fieldOf 19 = .ok (.aload_n 0, 1) := by decide +kernel
theorem dX3_fieldOf_20 : decode cX3_fieldOf 20 = .ok (.getfield 15, 3) := by decide +kernel
theorem dX3_fieldOf_23 : decode cX3_fieldOf 23 = .ok (.iload_n 2, 1) := by decide +kernel
theorem dX3_fieldOf_24 : decode cX3_fieldOf 24 = .ok (.iaload, 1) := by decide +kernel
theorem dX3_fieldOf_25 : decode cX3_fieldOf 25 = .ok (.invokevirtual 22, 3) := by decide +kernel
theorem dX3_fieldOf_28 : decode cX3_fieldOf 28 = .ok (.goto 6, 3) := by decide +kernel
theorem dX3_fieldOf_31 : decode cX3_fieldOf 31 = .ok (.sipush (-999), 3) := by decide +kernel
theorem dX3_fieldOf_34 : decode cX3_fieldOf 34 = .ok (.ireturn, 1) := by decide +kernel
set_option maxRecDepth 20000 in
theorem ggX3_wrap_X2_width : GoodIn wsX3_wrap wsX2_width := goodIn_r _ [12, 13, 60, 61, 62] rfl (by decide +kernel)
set_option maxRecDepth 20000 in
theorem gX3_wrap_X2_width : GoodIn wsX3_wrap (wsV RX3 28 RX2 yX2_width wsX2_width) := goodIn_app (goodIn_of _ (by decide +kernel)) ggX3_wrap_X2_width
set_option maxRecDepth 20000 in
theorem ggX3_wrap_X3_addLowest : GoodIn wsX3_wrap wsX3_addLowest := goodIn_r _ [18, 19, 20, 21, 11, 22, 23, 24, 25, 26, 27, 28, 29, 30, 31, 13, 32, 33, 34, 35, 36, 37, 38, 39, 40, 41, 42, 43, 44, 45, 46, 47, 17, 48, 1, 6, 7, 49, 50, 51, 52, 60, 61, 62, 57, 58, 59] rfl (by decide +kernel)
set_option maxRecDepth 20000 in
theorem gX3_wrap_X3_addLowest : GoodIn wsX3_wrap (wsV RX3 32 RX3 yX3_addLowest wsX3_addLowest) := goodIn_app (goodIn_of _ (by decide +kernel)) ggX3_wrap_X3_addLowest
set_option maxRecDepth 20000 in
theorem ggX3_wrap_X3_addHighest : GoodIn wsX3_wrap wsX3_addHighest := goodIn_r _ [56, 19, 20, 21, 11, 22, 23, 24, 25, 26, 27, 28, 29, 30, 31, 13, 32, 33, 34, 35, 36, 37, 38, 39, 40, 41, 42, 43, 44, 45, 46, 47, 17, 48, 1, 6, 7, 49, 50, 51, 52, 60, 61, 62, 57, 58, 59] rfl (by decide +kernel)
set_option maxRecDepth 20000 in
theorem gX3_wrap_X3_addHighest : GoodIn wsX3_wrap (wsV RX3 41 RX3 yX3_addHighest wsX3_addHighest) := goodIn_app (goodIn_of _ (by decide +kernel)) ggX3_wrap_X3_addHighest
theorem dX3_wrap_0 : decode cX3_wrap 0 = .ok (.aload_n 0, 1) := by decide +kernel
theorem dX3_wrap_1 : decode cX3_wrap 1 = .ok (.iconst 0, 1) := by decide +kernel
theorem dX3_wrap_2 : decode cX3_wrap 2 = .ok (.putfield 18, 3) := by decide +kernel
theorem dX3_wrap_5 : decode cX3_wrap 5 = .ok (.iconst 0, 1) := by decide +kernel
theorem dX3_wrap_6 : decode cX3_wrap 6 = .ok (.istore_n 2, 1) := by decide +kernel
theorem dX3_wrap_7 : decode cX3_wrap 7 = .ok (.iload_n 2, 1) := by decide +kernel
theorem dX3_wrap_8 : decode cX3_wrap 8 = .ok (.aload_n 1, 1) := by decide +kernel
theorem dX3_wrap_9 : decode cX3_wrap 9 = .ok (.invokevirtual 28, 3) := by decide +kernel
theorem dX3_wrap_12 : decode cX3_wrap 12 = .ok (.if_icmp .ge 15, 3) := by decide +kernel
theorem dX3_wrap_15 : decode cX3_wrap 15 = .ok (.aload_n 0, 1) := by decide +kernel
theorem dX3_wrap_16 : decode cX3_wrap 16 = .ok (.aload_n 1, 1) := by decide +kernel
theorem dX3_wrap_17 : decode cX3_wrap 17 = .ok (.iload_n 2, 1) := by decide +kernel
theorem dX3_wrap_18 : decode cX3_wrap 18 = .ok (.invokevirtual 32, 3) := by decide +kernel
theorem dX3_wrap_21 : decode cX3_wrap 21 = .ok (.iinc 2 1, 3) := by decide +kernel
theorem dX3_wrap_24 : decode cX3_wrap 24 = .ok (.goto (-17), 3) := by decide +kernel
theorem dX3_wrap_27 : decode cX3_wrap 27 = .ok (.aload_n 0, 1) := by decide +kernel
theorem dX3_wrap_28 : decode cX3_wrap 28 = .ok (.getfield 18, 3) := by decide +kernel
theorem dX3_wrap_31 : decode cX3_wrap 31 = .ok (.iconst 1, 1) := by decide +kernel
theorem dX3_wrap_32 : decode cX3_wrap 32 = .ok (.isub, 1) := by decide +kernel
theorem dX3_wrap_33 : decode cX3_wrap 33 = .ok (.iconst 0, 1) := by decide +kernel
theorem dX3_wrap_34 : decode cX3_wrap 34 = .ok (.invokestatic 36, 3) := by decide +kernel
theorem dX3_wrap_37 : decode cX3_wrap 37 = .ok (.istore_n 2, 1) := by decide +kernel
theorem dX3_wrap_38 : decode cX3_wrap 38 = .ok (.aload_n 1, 1) := by decide +kernel
theorem dX3_wrap_39 : decode cX3_wrap 39 = .ok (.invokevirtual 28, 3) := by decide +kernel
theorem dX3_wrap_42 : decode cX3_wrap 42 = .ok (.iconst 1, 1) := by decide +kernel
theorem dX3_wrap_43 : decode cX3_wrap 43 = .ok (.isub, 1) := by decide +kernel
theorem dX3_wrap_44 : decode cX3_wrap 44 = .ok (.istore_n 3, 1) := by decide +kernel
theorem dX3_wrap_45 : decode cX3_wrap 45 = .ok (.iload_n 3, 1) := by decide +kernel
theorem dX3_wrap_46 : decode cX3_wrap 46 = .ok (.ifCond .lt 16, 3) := by decide +kernel
theorem dX3_wrap_49 : decode cX3_wrap 49 = .ok (.aload_n 0, 1) := by decide +kernel
theorem dX3_wrap_50 : decode cX3_wrap 50 = .ok (.aload_n 1, 1) := by decide +kernel
theorem dX3_wrap_51 : decode cX3_wrap 51 = .ok (.iload_n 3, 1) := by decide +kernel
theorem dX3_wrap_52 : decode cX3_wrap 52 = .ok (.iload_n 2, 1) := by decide +kernel
theorem dX3_wrap_53 : decode cX3_wrap 53 = .ok (.invokevirtual 41, 3) := by decide +kernel
theorem dX3_wrap_56 : decode cX3_wrap 56 = .ok (.iinc 3 (-1), 3) := by decide +kernel
theorem dX3_wrap_59 : decode cX3_wrap 59 = .ok (.goto (-14), 3) := by decide +kernel
theorem dX3_wrap_62 : decode cX3_wrap 62 = .ok (.aload_n 0, 1) := by decide +kernel
theorem dX3_wrap_63 : decode cX3_wrap 63 = .ok (.getfield 18, 3) := by decide +kernel
theorem dX3_wrap_66 : decode cX3_wrap 66 = .ok (.iconst 1, 1) := by decide +kernel
theorem dX3_wrap_67 : decode cX3_wrap 67 = .ok (.if_icmp .le 53, 3) := by decide +kernel
theorem dX3_wrap_70 : decode cX3_wrap 70 = .ok (.aload_n 0, 1) := by decide +kernel
theorem dX3_wrap_71 : decode cX3_wrap 71 = .ok (.getfield 11, 3) := by decide +kernel
theorem dX3_wrap_74 : decode cX3_wrap 74 = .ok (.aload_n 0, 1) := by decide +kernel
theorem dX3_wrap_75 : decode cX3_wrap 75 = .ok (.getfield 18, 3) := by decide +kernel
theorem dX3_wrap_78 : decode cX3_wrap 78 = .ok (.iconst 1, 1) := by decide +kernel
theorem dX3_wrap_79 : decode cX3_wrap 79 = .ok (.isub, 1) := by decide +kernel
theorem dX3_wrap_80 : decode cX3_wrap 80 = .ok (.iaload, 1) := by decide +kernel
theorem dX3_wrap_81 : decode cX3_wrap 81 = .ok (.aload_n 0, 1) := by decide +kernel
theorem dX3_wrap_82 : decode cX3_wrap 82 = .ok (.getfield 11, 3) := by decide +kernel
theorem dX3_wrap_85 : decode cX3_wrap 85 = .ok (.iconst 0, 1) := by decide +kernel
theorem dX3_wrap_86 : decode cX3_wrap 86 = .ok (.iaload, 1) := by decide +kernel
theorem dX3_wrap_87 : decode cX3_wrap 87 = .ok (.if_icmp .ne 33, 3) := by decide +kernel
theorem dX3_wrap_90 : decode cX3_wrap 90 = .ok (.aload_n 0, 1) := by decide +kernel
theorem dX3_wrap_91 : decode cX3_wrap 91 = .ok (.getfield 15, 3) := by decide +kernel
theorem dX3_wrap_94 : decode cX3_wrap 94 = .ok (.aload_n 0, 1) := by decide +kernel
theorem dX3_wrap_95 : decode cX3_wrap 95 = .ok (.getfield 18, 3) := by decide +kernel
theorem dX3_wrap_98 : decode cX3_wrap 98 = .ok (.iconst 1, 1) := by decide +kernel
theorem dX3_wrap_99 : decode cX3_wrap 99 = .ok (.isub, 1) := by decide +kernel
theorem dX3_wrap_100 : decode cX3_wrap 100 = .ok (.iaload, 1) := by decide +kernel
theorem dX3_wrap_101 : decode cX3_wrap 101 = .ok (.aload_n 0, 1) := by decide +kernel
theorem dX3_wrap_102 : decode cX3_wrap 102 = .ok (.getfield 15, 3) := by decide +kernel
theorem dX3_wrap_105 : decode cX3_wrap 105 = .ok (.iconst 0, 1) := by decide +kernel
theorem dX3_wrap_106 : decode cX3_wrap 106 = .ok (.iaload, 1) := by decide +kernel
theorem dX3_wrap_107 : decode cX3_wrap 107 = .ok (.if_icmp .ne 13, 3) := by decide +kernel
theorem dX3_wrap_110 : decode cX3_wrap 110 = .ok (.aload_n 0, 1) := by decide +kernel
theorem dX3_wrap_111 : decode cX3_wrap 111 = .ok (.dup, 1) := by decide +kernel
theorem dX3_wrap_112 : decode cX3_wrap 112 = .ok (.getfield 18, 3) := by decide +kernel
theorem dX3_wrap_115 : decode cX3_wrap 115 = .ok (.iconst 1, 1) := by decide +kernel
theorem dX3_wrap_116 : decode cX3_wrap 116 = .ok (.isub, 1) := by decide +kernel
theorem dX3_wrap_117 : decode cX3_wrap 117 = .ok (.putfield 18, 3) := by decide +kernel
theorem dX3_wrap_120 : decode cX3_wrap 120 = .ok (.return_, 1) := by decide +kernel
set_option maxRecDepth 20000 in
theorem ggX3_lacks_X2_fields : GoodIn wsX3_lacks wsX2_fields := goodIn_r _ [5, 6, 7, 42, 43, 44] rfl (by decide +kernel)
set_option maxRecDepth 20000 in
theorem gX3_lacks_X2_fields : GoodIn wsX3_lacks (wsV RX3 45 RX2 yX2_fields wsX2_fields) := goodIn_app (goodIn_of _ (by decide +kernel)) ggX3_lacks_X2_fields
set_option maxRecDepth 20000 in
theorem ggX3_lacks_X2_holds : GoodIn wsX3_lacks wsX2_holds := goodIn_r _ [11, 12, 13, 14, 15, 4, 16, 17, 2, 3, 5, 6, 7, 42, 43, 44] rfl (by decide +kernel)
set_option maxRecDepth 20000 in
theorem gX3_lacks_X2_holds : GoodIn wsX3_lacks (wsV RX3 48 RX2 yX2_holds wsX2_holds) := goodIn_app (goodIn_of _ (by decide +kernel)) ggX3_lacks_X2_holds
set_option maxRecDepth 20000 in
theorem ggX3_lacks_X2_columnOf : GoodIn wsX3_lacks wsX2_columnOf := goodIn_r _ [21, 6, 42, 43, 44] rfl (by decide +kernel)
set_option maxRecDepth 20000 in
theorem gX3_lacks_X2_columnOf : GoodIn wsX3_lacks (wsV RX3 52 RX2 yX2_columnOf wsX2_columnOf) := goodIn_app (goodIn_of _ (by decide +kernel)) ggX3_lacks_X2_columnOf
set_option maxRecDepth 20000 in
theorem ggX3_lacks_X2_lineOf : GoodIn wsX3_lacks wsX2_lineOf := goodIn_r _ [25, 6, 42, 43, 44] rfl (by decide +kernel)
set_option maxRecDepth 20000 in
theorem gX3_lacks_X2_lineOf : GoodIn wsX3_lacks (wsV RX3 56 RX2 yX2_lineOf wsX2_lineOf) := goodIn_app (goodIn_of _ (by decide +kernel)) ggX3_lacks_X2_lineOf
set_option maxRecDepth 20000 in
theorem ggX3_lacks_X3_covers : GoodIn wsX3_lacks wsX3_covers := goodIn_r _ [30, 31, 32, 33, 34, 29, 35, 36, 37, 38, 39, 40, 41, 45, 46, 47] rfl (by decide +kernel)
set_option maxRecDepth 20000 in
theorem gX3_lacks_X3_covers : GoodIn wsX3_lacks (wsV RX3 59 RX3 yX3_covers wsX3_covers) := goodIn_app (goodIn_of _ (by decide +kernel)) ggX3_lacks_X3_covers
theorem dX3_lacks_0 : decode cX3_lacks 0 = .ok (.iconst 0, 1) := by decide +kernel
theorem dX3_lacks_1 : decode cX3_lacks 1 = .ok (.istore_n 2, 1) := by decide +kernel
theorem dX3_lacks_2 : decode cX3_lacks 2 = .ok (.iconst 0, 1) := by decide +kernel
theorem dX3_lacks_3 : decode cX3_lacks 3 = .ok (.istore_n 3, 1) := by decide +kernel
theorem dX3_lacks_4 : decode cX3_lacks 4 = .ok (.iload_n 3, 1) := by decide +kernel
theorem dX3_lacks_5 : decode cX3_lacks 5 = .ok (.aload_n 1, 1) := by decide +kernel
theorem dX3_lacks_6 : decode cX3_lacks 6 = .ok (.invokevirtual 45, 3) := by decide +kernel
theorem dX3_lacks_9 : decode cX3_lacks 9 = .ok (.if_icmp .ge 37, 3) := by decide +kernel
theorem dX3_lacks_12 : decode cX3_lacks 12 = .ok (.aload_n 1, 1) := by decide +kernel
theorem dX3_lacks_13 : decode cX3_lacks 13 = .ok (.iload_n 3, 1) := by decide +kernel
theorem dX3_lacks_14 : decode cX3_lacks 14 = .ok (.invokevirtual 48, 3) := by decide +kernel
theorem dX3_lacks_17 : decode cX3_lacks 17 = .ok (.ifCond .ne 23, 3) := by decide +kernel
theorem dX3_lacks_20 : decode cX3_lacks 20 = .ok (.aload_n 0, 1) := by decide +kernel
theorem dX3_lacks_21 : decode cX3_lacks 21 = .ok (.aload_n 1, 1) := by decide +kernel
theorem dX3_lacks_22 : decode cX3_lacks 22 = .ok (.iload_n 3, 1) := by decide +kernel
theorem dX3_lacks_23 : decode cX3_lacks 23 = .ok (.invokevirtual 52, 3) := by decide +kernel
theorem dX3_lacks_26 : decode cX3_lacks 26 = .ok (.aload_n 1, 1) := by decide +kernel
theorem dX3_lacks_27 : decode cX3_lacks 27 = .ok (.iload_n 3, 1) := by decide +kernel
theorem dX3_lacks_28 : decode cX3_lacks 28 = .ok (.invokevirtual 56, 3) := by decide +kernel
theorem dX3_lacks_31 : decode cX3_lacks 31 = .ok (.invokevirtual 59, 3) := by decide +kernel
theorem dX3_lacks_34 : decode cX3_lacks 34 = .ok (.ifCond .eq 6, 3) := by decide +kernel
theorem dX3_lacks_37 : decode cX3_lacks 37 = .ok (.iinc 2 1, 3) := by decide +kernel
theorem dX3_lacks_40 : decode cX3_lacks 40 = .ok (.iinc 3 1, 3) := by decide +kernel
theorem dX3_lacks_43 : decode cX3_lacks 43 = .ok (.goto (-39), 3) := by decide +kernel
theorem dX3_lacks_46 : decode cX3_lacks 46 = .ok (.iload_n 2, 1) := by decide +kernel
theorem dX3_lacks_47 : decode cX3_lacks 47 = .ok (.ireturn, 1) := by decide +kernel
set_option maxRecDepth 20000 in
theorem ggX3_addLowest_X2_height : GoodIn wsX3_addLowest wsX2_height := goodIn_r _ [5, 6, 41, 42, 43] rfl (by decide +kernel)
set_option maxRecDepth 20000 in
theorem gX3_addLowest_X2_height : GoodIn wsX3_addLowest (wsV RX3 63 RX2 yX2_height wsX2_height) := goodIn_app (goodIn_of _ (by decide +kernel)) ggX3_addLowest_X2_height
set_option maxRecDepth 20000 in
theorem ggX3_addLowest_X2_holdsAt : GoodIn wsX3_addLowest wsX2_holdsAt := goodIn_r _ [10, 11, 12, 13, 4, 14, 15, 6, 16, 17, 18, 19, 20, 21, 22, 23, 24, 25, 26, 27, 28, 41, 42, 43] rfl (by decide +kernel)
set_option maxRecDepth 20000 in
theorem gX3_addLowest_X2_holdsAt : GoodIn wsX3_addLowest (wsV RX3 66 RX2 yX2_holdsAt wsX2_holdsAt) := goodIn_app (goodIn_of _ (by decide +kernel)) ggX3_addLowest_X2_holdsAt
set_option maxRecDepth 20000 in
theorem ggX3_addLowest_X3_add : GoodIn wsX3_addLowest wsX3_add := goodIn_r _ [33, 34, 35, 36, 37, 38, 39, 32, 40, 44, 45, 46] rfl (by decide +kernel)
set_option maxRecDepth 20000 in
theorem gX3_addLowest_X3_add : GoodIn wsX3_addLowest (wsV RX3 69 RX3 yX3_add wsX3_add) := goodIn_app (goodIn_of _ (by decide +kernel)) ggX3_addLowest_X3_add
theorem dX3_addLowest_0 : decode cX3_addLowest 0 = .ok (.iconst 0, 1) := by decide +kernel
theorem dX3_addLowest_1 : decode cX3_addLowest 1 = .ok (.istore_n 3, 1) := by decide +kernel
theorem dX3_addLowest_2 : decode cX3_addLowest 2 = .ok (.iload_n 3, 1) := by decide +kernel
theorem dX3_addLowest_3 : decode cX3_addLowest 3 = .ok (.aload_n 1, 1) := by decide +kernel
theorem dX3_addLowest_4 : decode cX3_addLowest 4 = .ok (.invokevirtual 63, 3) := by decide +kernel
theorem dX3_addLowest_7 : decode cX3_addLowest 7 = .ok (.if_icmp .ge 26, 3) := by decide +kernel
theorem dX3_addLowest_10 : decode cX3_addLowest 10 = .ok (.aload_n 1, 1) := by decide +kernel
theorem dX3_addLowest_11 : decode cX3_addLowest 11 = .ok (.iload_n 2, 1) := by decide +kernel
theorem dX3_addLowest_12 : decode cX3_addLowest 12 = .ok (.iload_n 3, 1) := by decide +kernel
theorem dX3_addLowest_13 : decode cX3_addLowest 13 = .ok (.invokevirtual 66, 3) := by decide +kernel
theorem dX3_addLowest_16 : decode cX3_addLowest 16 = .ok (.ifCond .eq 11, 3) := by decide +kernel
theorem dX3_addLowest_19 : decode cX3_addLowest 19 = .ok (.aload_n 0, 1) := by decide +kernel
theorem dX3_addLowest_20 : decode cX3_addLowest 20 = .ok (.iload_n 2, 1) := by decide +kernel
theorem dX3_addLowest_21 : decode cX3_addLowest 21 = .ok (.iload_n 3, 1) := by decide +kernel
theorem dX3_addLowest_22 : decode cX3_addLowest 22 = .ok (.iconst 0, 1) := by decide +kernel
theorem dX3_addLowest_23 : decode cX3_addLowest 23 = .ok (.invokevirtual 69, 3) := by decide +kernel
theorem dX3_addLowest_26 : decode cX3_addLowest 26 = .ok (.return_, 1) := by decide +kernel
theorem dX3_addLowest_27 : decode cX3_addLowest 27 = .ok (.iinc 3 1, 3) := by decide +kernel
theorem dX3_addLowest_30 : decode cX3_addLowest 30 = .ok (.goto (-28), 3) := by decide +kernel
theorem dX3_addLowest_33 : decode cX3_addLowest 33 = .ok (.return_, 1) := by decide +kernel
set_option maxRecDepth 20000 in
theorem ggX3_addHighest_X2_height : GoodIn wsX3_addHighest wsX2_height := goodIn_r _ [5, 6, 41, 42, 43] rfl (by decide +kernel)
set_option maxRecDepth 20000 in
theorem gX3_addHighest_X2_height : GoodIn wsX3_addHighest (wsV RX3 63 RX2 yX2_height wsX2_height) := goodIn_app (goodIn_of _ (by decide +kernel)) ggX3_addHighest_X2_height
set_option maxRecDepth 20000 in
theorem ggX3_addHighest_X2_holdsAt : GoodIn wsX3_addHighest wsX2_holdsAt := goodIn_r _ [10, 11, 12, 13, 4, 14, 15, 6, 16, 17, 18, 19, 20, 21, 22, 23, 24, 25, 26, 27, 28, 41, 42, 43] rfl (by decide +kernel)
set_option maxRecDepth 20000 in
theorem gX3_addHighest_X2_holdsAt : GoodIn wsX3_addHighest (wsV RX3 66 RX2 yX2_holdsAt wsX2_holdsAt) := goodIn_app (goodIn_of _ (by decide +kernel)) ggX3_addHighest_X2_holdsAt
set_option maxRecDepth 20000 in
theorem ggX3_addHighest_X3_add : GoodIn wsX3_addHighest wsX3_add := goodIn_r _ [33, 34, 35, 36, 37, 38, 39, 32, 40, 44, 45, 46] rfl (by decide +kernel)
set_option maxRecDepth 20000 in
theorem gX3_addHighest_X3_add : GoodIn wsX3_addHighest (wsV RX3 69 RX3 yX3_add wsX3_add) := goodIn_app (goodIn_of _ (by decide +kernel)) ggX3_addHighest_X3_add
theorem dX3_addHighest_0 : decode cX3_addHighest 0 = .ok (.aload_n 1, 1) := by decide +kernel
theorem dX3_addHighest_1 : decode cX3_addHighest 1 = .ok (.invokevirtual 63, 3) := by decide +kernel
theorem dX3_addHighest_4 : decode cX3_addHighest 4 = .ok (.iconst 1, 1) := by decide +kernel
theorem dX3_addHighest_5 : decode cX3_addHighest 5 = .ok (.isub, 1) := by decide +kernel
theorem dX3_addHighest_6 : decode cX3_addHighest 6 = .ok (.istore 4, 2) := by decide +kernel
theorem dX3_addHighest_8 : decode cX3_addHighest 8 = .ok (.iload 4, 2) := by decide +kernel
theorem dX3_addHighest_10 : decode cX3_addHighest 10 = .ok (.ifCond .lt 28, 3) := by decide +kernel
theorem dX3_addHighest_13 : decode cX3_addHighest 13 = .ok (.aload_n 1, 1) := by decide +kernel
theorem dX3_addHighest_14 : decode cX3_addHighest 14 = .ok (.iload_n 2, 1) := by decide +kernel
theorem dX3_addHighest_15 : decode cX3_addHighest 15 = .ok (.iload 4, 2) := by decide +kernel
theorem dX3_addHighest_17 : decode cX3_addHighest 17 = .ok (.invokevirtual 66, 3) := by decide +kernel
theorem dX3_addHighest_20 : decode cX3_addHighest 20 = .ok (.ifCond .eq 12, 3) := by decide +kernel
theorem dX3_addHighest_23 : decode cX3_addHighest 23 = .ok (.aload_n 0, 1) := by decide +kernel
theorem dX3_addHighest_24 : decode cX3_addHighest 24 = .ok (.iload_n 2, 1) := by decide +kernel
theorem dX3_addHighest_25 : decode cX3_addHighest 25 = .ok (.iload 4, 2) := by decide +kernel
theorem dX3_addHighest_27 : decode cX3_addHighest 27 = .ok (.iload_n 3, 1) := by decide +kernel
theorem dX3_addHighest_28 : decode cX3_addHighest 28 = .ok (.invokevirtual 69, 3) := by decide +kernel
theorem dX3_addHighest_31 : decode cX3_addHighest 31 = .ok (.return_, 1) := by decide +kernel
theorem dX3_addHighest_32 : decode cX3_addHighest 32 = .ok (.iinc 4 (-1), 3) := by decide +kernel
theorem dX3_addHighest_35 : decode cX3_addHighest 35 = .ok (.goto (-27), 3) := by decide +kernel
theorem dX3_addHighest_38 : decode cX3_addHighest 38 = .ok (.return_, 1) := by decide +kernel
set_option maxRecDepth 20000 in
theorem ggX3_add_X3_side : GoodIn wsX3_add wsX3_side := goodIn_r _ [8, 2, 3, 9, 10, 11] rfl (by decide +kernel)
set_option maxRecDepth 20000 in
theorem gX3_add_X3_side : GoodIn wsX3_add (wsV RX3 73 RX3 yX3_side wsX3_side) := goodIn_app (goodIn_of _ (by decide +kernel)) ggX3_add_X3_side
theorem dX3_add_0 : decode cX3_add 0 = .ok (.aload_n 0, 1) := by decide +kernel
theorem dX3_add_1 : decode cX3_add 1 = .ok (.getfield 18, 3) := by decide +kernel
theorem dX3_add_4 : decode cX3_add 4 = .ok (.iload_n 3, 1) := by decide +kernel
theorem dX3_add_5 : decode cX3_add 5 = .ok (.isub, 1) := by decide +kernel
theorem dX3_add_6 : decode cX3_add 6 = .ok (.iconst 2, 1) := by decide +kernel
theorem dX3_add_7 : decode cX3_add 7 = .ok (.if_icmp .lt 37, 3) := by decide +kernel
theorem dX3_add_10 : decode cX3_add 10 = .ok (.aload_n 0, 1) := by decide +kernel
theorem dX3_add_11 : decode cX3_add 11 = .ok (.aload_n 0, 1) := by decide +kernel
theorem dX3_add_12 : decode cX3_add 12 = .ok (.getfield 18, 3) := by decide +kernel
theorem dX3_add_15 : decode cX3_add 15 = .ok (.iconst 2, 1) := by decide +kernel
theorem dX3_add_16 : decode cX3_add 16 = .ok (.isub, 1) := by decide +kernel
theorem dX3_add_17 : decode cX3_add 17 = .ok (.aload_n 0, 1) := by decide +kernel
theorem dX3_add_18 : decode cX3_add 18 = .ok (.getfield 18, 3) := by decide +kernel
theorem dX3_add_21 : decode cX3_add 21 = .ok (.iconst 1, 1) := by decide +kernel
theorem dX3_add_22 : decode cX3_add 22 = .ok (.isub, 1) := by decide +kernel
theorem dX3_add_23 : decode cX3_add 23 = .ok (.iload_n 1, 1) := by decide +kernel
theorem dX3_add_24 : decode cX3_add 24 = .ok (.iload_n 2, 1) := by decide +kernel
theorem dX3_add_25 : decode cX3_add 25 = .ok (.invokevirtual 73, 3) := by decide +kernel
theorem dX3_add_28 : decode cX3_add 28 = .ok (.ifCond .gt 16, 3) := by decide +kernel
theorem dX3_add_31 : decode cX3_add 31 = .ok (.aload_n 0, 1) := by decide +kernel
theorem dX3_add_32 : decode cX3_add 32 = .ok (.dup, 1) := by decide +kernel
theorem dX3_add_33 : decode cX3_add 33 = .ok (.getfield 18, 3) := by decide +kernel
theorem dX3_add_36 : decode cX3_add 36 = .ok (.iconst 1, 1) := by decide +kernel
theorem dX3_add_37 : decode cX3_add 37 = .ok (.isub, 1) := by decide +kernel
theorem dX3_add_38 : decode cX3_add 38 = .ok (.putfield 18, 3) := by decide +kernel
theorem dX3_add_41 : decode cX3_add 41 = .ok (.goto (-41), 3) := by decide +kernel
theorem dX3_add_44 : decode cX3_add 44 = .ok (.aload_n 0, 1) := by decide +kernel
theorem dX3_add_45 : decode cX3_add 45 = .ok (.getfield 18, 3) := by decide +kernel
theorem dX3_add_48 : decode cX3_add 48 = .ok (.bipush 24, 2) := by decide +kernel
theorem dX3_add_50 : decode cX3_add 50 = .ok (.if_icmp .ge 33, 3) := by decide +kernel
theorem dX3_add_53 : decode cX3_add 53 = .ok (.aload_n 0, 1) := by decide +kernel
theorem dX3_add_54 : decode cX3_add 54 = .ok (.getfield 11, 3) := by decide +kernel
theorem dX3_add_57 : decode cX3_add 57 = .ok (.aload_n 0, 1) := by decide +kernel
theorem dX3_add_58 : decode cX3_add 58 = .ok (.getfield 18, 3) := by decide +kernel
theorem dX3_add_61 : decode cX3_add 61 = .ok (.iload_n 1, 1) := by decide +kernel
theorem dX3_add_62 : decode cX3_add 62 = .ok (.iastore, 1) := by decide +kernel
theorem dX3_add_63 : decode cX3_add 63 = .ok (.aload_n 0, 1) := by decide +kernel
theorem dX3_add_64 : decode cX3_add 64 = .ok (.getfield 15, 3) := by decide +kernel
theorem dX3_add_67 : decode cX3_add 67 = .ok (.aload_n 0, 1) := by decide +kernel
theorem dX3_add_68 : decode cX3_add 68 = .ok (.getfield 18, 3) := by decide +kernel
theorem dX3_add_71 : decode cX3_add 71 = .ok (.iload_n 2, 1) := by decide +kernel
theorem dX3_add_72 : decode cX3_add 72 = .ok (.iastore, 1) := by decide +kernel
theorem dX3_add_73 : decode cX3_add 73 = .ok (.aload_n 0, 1) := by decide +kernel
theorem dX3_add_74 : decode cX3_add 74 = .ok (.dup, 1) := by decide +kernel
theorem dX3_add_75 : decode cX3_add 75 = .ok (.getfield 18, 3) := by decide +kernel
theorem dX3_add_78 : decode cX3_add 78 = .ok (.iconst 1, 1) := by decide +kernel
theorem dX3_add_79 : decode cX3_add 79 = .ok (.iadd, 1) := by decide +kernel
theorem dX3_add_80 : decode cX3_add 80 = .ok (.putfield 18, 3) := by decide +kernel
theorem dX3_add_83 : decode cX3_add 83 = .ok (.return_, 1) := by decide +kernel
theorem dX3_side_0 : decode cX3_side 0 = .ok (.iload_n 1, 1) := by decide +kernel
theorem dX3_side_1 : decode cX3_side 1 = .ok (.ifCond .lt 19, 3) := by decide +kernel
theorem dX3_side_4 : decode cX3_side 4 = .ok (.iload_n 2, 1) := by decide +kernel
theorem dX3_side_5 : decode cX3_side 5 = .ok (.ifCond .lt 15, 3) := by decide +kernel
theorem dX3_side_8 : decode cX3_side 8 = .ok (.iload_n 1, 1) := by decide +kernel
theorem dX3_side_9 : decode cX3_side 9 = .ok (.bipush 24, 2) := by decide +kernel
theorem dX3_side_11 : decode cX3_side 11 = .ok (.if_icmp .ge 9, 3) := by decide +kernel
theorem dX3_side_14 : decode cX3_side 14 = .ok (.iload_n 2, 1) := by decide +kernel
theorem dX3_side_15 : decode cX3_side 15 = .ok (.bipush 24, 2) := by decide +kernel
theorem dX3_side_17 : decode cX3_side 17 = .ok (.if_icmp .lt 5, 3) := by decide +kernel
theorem dX3_side_20 : decode cX3_side 20 = .ok (.iconst 0, 1) := by decide +kernel
theorem dX3_side_21 : decode cX3_side 21 = .ok (.ireturn, 1) := by decide +kernel
theorem dX3_side_22 : decode cX3_side 22 = .ok (.aload_n 0, 1) := by decide +kernel
theorem dX3_side_23 : decode cX3_side 23 = .ok (.getfield 11, 3) := by decide +kernel
theorem dX3_side_26 : decode cX3_side 26 = .ok (.iload_n 2, 1) := by decide +kernel
theorem dX3_side_27 : decode cX3_side 27 = .ok (.iaload, 1) := by decide +kernel
theorem dX3_side_28 : decode cX3_side 28 = .ok (.aload_n 0, 1) := by decide +kernel
theorem dX3_side_29 : decode cX3_side 29 = .ok (.getfield 11, 3) := by decide +kernel
theorem dX3_side_32 : decode cX3_side 32 = .ok (.iload_n 1, 1) := by decide +kernel
theorem dX3_side_33 : decode cX3_side 33 = .ok (.iaload, 1) := by decide +kernel
theorem dX3_side_34 : decode cX3_side 34 = .ok (.isub, 1) := by decide +kernel
theorem dX3_side_35 : decode cX3_side 35 = .ok (.iload 4, 2) := by decide +kernel
theorem dX3_side_37 : decode cX3_side 37 = .ok (.aload_n 0, 1) := by decide +kernel
theorem dX3_side_38 : decode cX3_side 38 = .ok (.getfield 15, 3) := by decide +kernel
theorem dX3_side_41 : decode cX3_side 41 = .ok (.iload_n 1, 1) := by decide +kernel
theorem dX3_side_42 : decode cX3_side 42 = .ok (.iaload, 1) := by decide +kernel
theorem dX3_side_43 : decode cX3_side 43 = .ok (.isub, 1) := by decide +kernel
theorem dX3_side_44 : decode cX3_side 44 = .ok (.imul, 1) := by decide +kernel
theorem dX3_side_45 : decode cX3_side 45 = .ok (.aload_n 0, 1) := by decide +kernel
theorem dX3_side_46 : decode cX3_side 46 = .ok (.getfield 15, 3) := by decide +kernel
theorem dX3_side_49 : decode cX3_side 49 = .ok (.iload_n 2, 1) := by decide +kernel
theorem dX3_side_50 : decode cX3_side 50 = .ok (.iaload, 1) := by decide +kernel
theorem dX3_side_51 : decode cX3_side 51 = .ok (.aload_n 0, 1) := by decide +kernel
theorem dX3_side_52 : decode cX3_side 52 = .ok (.getfield 15, 3) := by decide +kernel
theorem dX3_side_55 : decode cX3_side 55 = .ok (.iload_n 1, 1) := by decide +kernel
theorem dX3_side_56 : decode cX3_side 56 = .ok (.iaload, 1) := by decide +kernel
theorem dX3_side_57 : decode cX3_side 57 = .ok (.isub, 1) := by decide +kernel
theorem dX3_side_58 : decode cX3_side 58 = .ok (.iload_n 3, 1) := by decide +kernel
theorem dX3_side_59 : decode cX3_side 59 = .ok (.aload_n 0, 1) := by decide +kernel
theorem dX3_side_60 : decode cX3_side 60 = .ok (.getfield 11, 3) := by decide +kernel
theorem dX3_side_63 : decode cX3_side 63 = .ok (.iload_n 1, 1) := by decide +kernel
theorem dX3_side_64 : decode cX3_side 64 = .ok (.iaload, 1) := by decide +kernel
theorem dX3_side_65 : decode cX3_side 65 = .ok (.isub, 1) := by decide +kernel
theorem dX3_side_66 : decode cX3_side 66 = .ok (.imul, 1) := by decide +kernel
theorem dX3_side_67 : decode cX3_side 67 = .ok (.isub, 1) := by decide +kernel
theorem dX3_side_68 : decode cX3_side 68 = .ok (.ireturn, 1) := by decide +kernel
set_option maxRecDepth 20000 in
theorem ggX3_covers_X3_side : GoodIn wsX3_covers wsX3_side := goodIn_r _ [6, 7, 8, 13, 14, 15] rfl (by decide +kernel)
set_option maxRecDepth 20000 in
theorem gX3_covers_X3_side : GoodIn wsX3_covers (wsV RX3 73 RX3 yX3_side wsX3_side) := goodIn_app (goodIn_of _ (by decide +kernel)) ggX3_covers_X3_side
set_option maxRecDepth 20000 in
theorem ggX3_covers_X3_inBox : GoodIn wsX3_covers wsX3_inBox := goodIn_r _ [12, 1, 7, 8, 13, 14, 15] rfl (by decide +kernel)
set_option maxRecDepth 20000 in
theorem gX3_covers_X3_inBox : GoodIn wsX3_covers (wsV RX3 77 RX3 yX3_inBox wsX3_inBox) := goodIn_app (goodIn_of _ (by decide +kernel)) ggX3_covers_X3_inBox
theorem dX3_covers_0 : decode cX3_covers 0 = .ok (.iconst 0, 1) := by decide +kernel
theorem dX3_covers_1 : decode cX3_covers 1 = .ok (.istore_n 3, 1) := by decide +kernel
theorem dX3_covers_2 : decode cX3_covers 2 = .ok (.iload_n 3, 1) := by decide +kernel
theorem dX3_covers_3 : decode cX3_covers 3 = .ok (.aload_n 0, 1) := by decide +kernel
theorem dX3_covers_4 : decode cX3_covers 4 = .ok (.getfield 18, 3) := by decide +kernel
theorem dX3_covers_7 : decode cX3_covers 7 = .ok (.if_icmp .ge 42, 3) := by decide +kernel
theorem dX3_covers_10 : decode cX3_covers 10 = .ok (.iload_n 3, 1) := by decide +kernel
theorem dX3_covers_11 : decode cX3_covers 11 = .ok (.iconst 1, 1) := by decide +kernel
theorem dX3_covers_12 : decode cX3_covers 12 = .ok (.iadd, 1) := by decide +kernel
theorem dX3_covers_13 : decode cX3_covers 13 = .ok (.aload_n 0, 1) := by decide +kernel
theorem dX3_covers_14 : decode cX3_covers 14 = .ok (.getfield 18, 3) := by decide +kernel
theorem dX3_covers_17 : decode cX3_covers 17 = .ok (.if_icmp .ge 9, 3) := by decide +kernel
theorem dX3_covers_20 : decode cX3_covers 20 = .ok (.iload_n 3, 1) := by decide +kernel
theorem dX3_covers_21 : decode cX3_covers 21 = .ok (.iconst 1, 1) := by decide +kernel
theorem dX3_covers_22 : decode cX3_covers 22 = .ok (.iadd, 1) := by decide +kernel
theorem dX3_covers_23 : decode cX3_covers 23 = .ok (.goto 4, 3) := by decide +kernel
theorem dX3_covers_26 : decode cX3_covers 26 = .ok (.iconst 0, 1) := by decide +kernel
theorem dX3_covers_27 : decode cX3_covers 27 = .ok (.istore 4, 2) := by decide +kernel
theorem dX3_covers_29 : decode cX3_covers 29 = .ok (.aload_n 0, 1) := by decide +kernel
theorem dX3_covers_30 : decode cX3_covers 30 = .ok (.iload_n 3, 1) := by decide +kernel
theorem dX3_covers_31 : decode cX3_covers 31 = .ok (.iload 4, 2) := by decide +kernel
theorem dX3_covers_33 : decode cX3_covers 33 = .ok (.iload_n 1, 1) := by decide +kernel
theorem dX3_covers_34 : decode cX3_covers 34 = .ok (.iload_n 2, 1) := by decide +kernel
theorem dX3_covers_35 : decode cX3_covers 35 = .ok (.invokevirtual 73, 3) := by decide +kernel
theorem dX3_covers_38 : decode cX3_covers 38 = .ok (.ifCond .ge 5, 3) := by decide +kernel
theorem dX3_covers_41 : decode cX3_covers 41 = .ok (.iconst 0, 1) := by decide +kernel
theorem dX3_covers_42 : decode cX3_covers 42 = .ok (.ireturn, 1) := by decide +kernel
theorem dX3_covers_43 : decode cX3_covers 43 = .ok (.iinc 3 1, 3) := by decide +kernel
theorem dX3_covers_46 : decode cX3_covers 46 = .ok (.goto (-44), 3) := by decide +kernel
theorem dX3_covers_49 : decode cX3_covers 49 = .ok (.aload_n 0, 1) := by decide +kernel
theorem dX3_covers_50 : decode cX3_covers 50 = .ok (.iload_n 1, 1) := by decide +kernel
theorem dX3_covers_51 : decode cX3_covers 51 = .ok (.iload_n 2, 1) := by decide +kernel
theorem dX3_covers_52 : decode cX3_covers 52 = .ok (.invokevirtual 77, 3) := by decide +kernel
theorem dX3_covers_55 : decode cX3_covers 55 = .ok (.ireturn, 1) := by decide +kernel
theorem dX3_inBox_0 : decode cX3_inBox 0 = .ok (.iconst 0, 1) := by decide +kernel
theorem dX3_inBox_1 : decode cX3_inBox 1 = .ok (.istore_n 3, 1) := by decide +kernel
theorem dX3_inBox_2 : decode cX3_inBox 2 = .ok (.iconst 0, 1) := by decide +kernel
theorem dX3_inBox_3 : decode cX3_inBox 3 = .ok (.istore 4, 2) := by decide +kernel
theorem dX3_inBox_5 : decode cX3_inBox 5 = .ok (.iconst 0, 1) := by decide +kernel
theorem dX3_inBox_6 : decode cX3_inBox 6 = .ok (.istore 5, 2) := by decide +kernel
theorem dX3_inBox_8 : decode cX3_inBox 8 = .ok (.iconst 0, 1) := by decide +kernel
theorem dX3_inBox_9 : decode cX3_inBox 9 = .ok (.istore 6, 2) := by decide +kernel
theorem dX3_inBox_11 : decode cX3_inBox 11 = .ok (.iconst 0, 1) := by decide +kernel
theorem dX3_inBox_12 : decode cX3_inBox 12 = .ok (.istore 7, 2) := by decide +kernel
theorem dX3_inBox_14 : decode cX3_inBox 14 = .ok (.iload 7, 2) := by decide +kernel
theorem dX3_inBox_16 : decode cX3_inBox 16 = .ok (.aload_n 0, 1) := by decide +kernel
theorem dX3_inBox_17 : decode cX3_inBox 17 = .ok (.getfield 18, 3) := by decide +kernel
theorem dX3_inBox_20 : decode cX3_inBox 20 = .ok (.if_icmp .ge 99, 3) := by decide +kernel
theorem dX3_inBox_23 : decode cX3_inBox 23 = .ok (.iload_n 3, 1) := by decide +kernel
theorem dX3_inBox_24 : decode cX3_inBox 24 = .ok (.ifCond .ne 14, 3) := by decide +kernel
theorem dX3_inBox_27 : decode cX3_inBox 27 = .ok (.iload_n 1, 1) := by decide +kernel
theorem dX3_inBox_28 : decode cX3_inBox 28 = .ok (.aload_n 0, 1) := by decide +kernel
theorem dX3_inBox_29 : decode cX3_inBox 29 = .ok (.getfield 11, 3) := by decide +kernel
theorem dX3_inBox_32 : decode cX3_inBox 32 = .ok (.iload 7, 2) := by decide +kernel
theorem dX3_inBox_34 : decode cX3_inBox 34 = .ok (.iaload, 1) := by decide +kernel
theorem dX3_inBox_35 : decode cX3_inBox 35 = .ok (.if_icmp .lt 7, 3) := by decide +kernel
theorem dX3_inBox_38 : decode cX3_inBox 38 = .ok (.iconst 1, 1) := by decide +kernel
theorem dX3_inBox_39 : decode cX3_inBox 39 = .ok (.goto 4, 3) := by decide +kernel
theorem dX3_inBox_42 : decode cX3_inBox 42 = .ok (.iconst 0, 1) := by decide +kernel
theorem dX3_inBox_43 : decode cX3_inBox 43 = .ok (.istore_n 3, 1) := by decide +kernel
theorem dX3_inBox_44 : decode cX3_inBox 44 = .ok (.iload 4, 2) := by decide +kernel
theorem dX3_inBox_46 : decode cX3_inBox 46 = .ok (.ifCond .ne 14, 3) := by decide +kernel
theorem dX3_inBox_49 : decode cX3_inBox 49 = .ok (.iload_n 1, 1) := by decide +kernel
theorem dX3_inBox_50 : decode cX3_inBox 50 = .ok (.aload_n 0, 1) := by decide +kernel
theorem dX3_inBox_51 : decode cX3_inBox 51 = .ok (.getfield 11, 3) := by decide +kernel
theorem dX3_inBox_54 : decode cX3_inBox 54 = .ok (.iload 7, 2) := by decide +kernel
theorem dX3_inBox_56 : decode cX3_inBox 56 = .ok (.iaload, 1) := by decide +kernel
theorem dX3_inBox_57 : decode cX3_inBox 57 = .ok (.if_icmp .gt 7, 3) := by decide +kernel
theorem dX3_inBox_60 : decode cX3_inBox 60 = .ok (.iconst 1, 1) := by decide +kernel
theorem dX3_inBox_61 : decode cX3_inBox 61 = .ok (.goto 4, 3) := by decide +kernel
theorem dX3_inBox_64 : decode cX3_inBox 64 = .ok (.iconst 0, 1) := by decide +kernel
theorem dX3_inBox_65 : decode cX3_inBox 65 = .ok (.istore 4, 2) := by decide +kernel
theorem dX3_inBox_67 : decode cX3_inBox 67 = .ok (.iload 5, 2) := by decide +kernel
theorem dX3_inBox_69 : decode cX3_inBox 69 = .ok (.ifCond .ne 14, 3) := by decide +kernel
theorem dX3_inBox_72 : decode cX3_inBox 72 = .ok (.iload_n 2, 1) := by decide +kernel
theorem dX3_inBox_73 : decode cX3_inBox 73 = .ok (.aload_n 0, 1) := by decide +kernel
theorem dX3_inBox_74 : decode cX3_inBox 74 = .ok (.getfield 15, 3) := by decide +kernel
theorem dX3_inBox_77 : decode cX3_inBox 77 = .ok (.iload 7, 2) := by decide +kernel
theorem dX3_inBox_79 : decode cX3_inBox 79 = .ok (.iaload, 1) := by decide +kernel
theorem dX3_inBox_80 : decode cX3_inBox 80 = .ok (.if_icmp .lt 7, 3) := by decide +kernel
theorem dX3_inBox_83 : decode cX3_inBox 83 = .ok (.iconst 1, 1) := by decide +kernel
theorem dX3_inBox_84 : decode cX3_inBox 84 = .ok (.goto 4, 3) := by decide +kernel
theorem dX3_inBox_87 : decode cX3_inBox 87 = .ok (.iconst 0, 1) := by decide +kernel
theorem dX3_inBox_88 : decode cX3_inBox 88 = .ok (.istore 5, 2) := by decide +kernel
theorem dX3_inBox_90 : decode cX3_inBox 90 = .ok (.iload 6, 2) := by decide +kernel
theorem dX3_inBox_92 : decode cX3_inBox 92 = .ok (.ifCond .ne 14, 3) := by decide +kernel
theorem dX3_inBox_95 : decode cX3_inBox 95 = .ok (.iload_n 2, 1) := by decide +kernel
theorem dX3_inBox_96 : decode cX3_inBox 96 = .ok (.aload_n 0, 1) := by decide +kernel
theorem dX3_inBox_97 : decode cX3_inBox 97 = .ok (.getfield 15, 3) := by decide +kernel
theorem dX3_inBox_100 : decode cX3_inBox 100 = .ok (.iload 7, 2) := by decide +kernel
theorem dX3_inBox_102 : decode cX3_inBox 102 = .ok (.iaload, 1) := by decide +kernel
theorem dX3_inBox_103 : decode cX3_inBox 103 = .ok (.if_icmp .gt 7, 3) := by decide +kernel
theorem dX3_inBox_106 : decode cX3_inBox 106 = .ok (.iconst 1, 1) := by decide +kernel
theorem dX3_inBox_107 : decode cX3_inBox 107 = .ok (.goto 4, 3) := by decide +kernel
theorem dX3_inBox_110 : decode cX3_inBox 110 = .ok (.iconst 0, 1) := by decide +kernel
theorem dX3_inBox_111 : decode cX3_inBox 111 = .ok (.istore 6, 2) := by decide +kernel
theorem dX3_inBox_113 : decode cX3_inBox 113 = .ok (.iinc 7 1, 3) := by decide +kernel
theorem dX3_inBox_116 : decode cX3_inBox 116 = .ok (.goto (-102), 3) := by decide +kernel
theorem dX3_inBox_119 : decode cX3_inBox 119 = .ok (.iload_n 3, 1) := by decide +kernel
theorem dX3_inBox_120 : decode cX3_inBox 120 = .ok (.ifCond .eq 22, 3) := by decide +kernel
theorem dX3_inBox_123 : decode cX3_inBox 123 = .ok (.iload 4, 2) := by decide +kernel
theorem dX3_inBox_125 : decode cX3_inBox 125 = .ok (.ifCond .eq 17, 3) := by decide +kernel
theorem dX3_inBox_128 : decode cX3_inBox 128 = .ok (.iload 5, 2) := by decide +kernel
theorem dX3_inBox_130 : decode cX3_inBox 130 = .ok (.ifCond .eq 12, 3) := by decide +kernel
theorem dX3_inBox_133 : decode cX3_inBox 133 = .ok (.iload 6, 2) := by decide +kernel
theorem dX3_inBox_135 : decode cX3_inBox 135 = .ok (.ifCond .eq 7, 3) := by decide +kernel
theorem dX3_inBox_138 : decode cX3_inBox 138 = .ok (.iconst 1, 1) := by decide +kernel
theorem dX3_inBox_139 : decode cX3_inBox 139 = .ok (.goto 4, 3) := by decide +kernel
theorem dX3_inBox_142 : decode cX3_inBox 142 = .ok (.iconst 0, 1) := by decide +kernel
theorem dX3_inBox_143 : decode cX3_inBox 143 = .ok (.ireturn, 1) := by decide +kernel
theorem dX4_init_0 : decode cX4_init 0 = .ok (.aload_n 0, 1) := by decide +kernel
theorem dX4_init_1 : decode cX4_init 1 = .ok (.invokespecial 3, 3) := by decide +kernel
theorem dX4_init_4 : decode cX4_init 4 = .ok (.aload_n 0, 1) := by decide +kernel
theorem dX4_init_5 : decode cX4_init 5 = .ok (.sipush 144, 3) := by decide +kernel
theorem dX4_init_8 : decode cX4_init 8 = .ok (.newarray .int, 2) := by decide +kernel
theorem dX4_init_10 : decode cX4_init 10 = .ok (.putfield 9, 3) := by decide +kernel
theorem dX4_init_13 : decode cX4_init 13 = .ok (.aload_n 0, 1) := by decide +kernel
theorem dX4_init_14 : decode cX4_init 14 = .ok (.sipush 144, 3) := by decide +kernel
theorem dX4_init_17 : decode cX4_init 17 = .ok (.newarray .int, 2) := by decide +kernel
theorem dX4_init_19 : decode cX4_init 19 = .ok (.putfield 15, 3) := by decide +kernel
theorem dX4_init_22 : decode cX4_init 22 = .ok (.aload_n 0, 1) := by decide +kernel
theorem dX4_init_23 : decode cX4_init 23 = .ok (.sipush 144, 3) := by decide +kernel
theorem dX4_init_26 : decode cX4_init 26 = .ok (.newarray .boolean, 2) := by decide +kernel
theorem dX4_init_28 : decode cX4_init 28 = .ok (.putfield 18, 3) := by decide +kernel
theorem dX4_init_31 : decode cX4_init 31 = .ok (.return_, 1) := by decide +kernel
set_option maxRecDepth 20000 in
theorem ggX4_split_X2_fields : GoodIn wsX4_split wsX2_fields := goodIn_r _ [10, 11, 12, 39, 40, 41] rfl (by decide +kernel)
set_option maxRecDepth 20000 in
theorem gX4_split_X2_fields : GoodIn wsX4_split (wsV RX4 22 RX2 yX2_fields wsX2_fields) := goodIn_app (goodIn_of _ (by decide +kernel)) ggX4_split_X2_fields
set_option maxRecDepth 20000 in
theorem ggX4_split_X4_gather : GoodIn wsX4_split wsX4_gather := goodIn_r _ [17, 5, 18, 19, 20, 21, 9, 22, 11, 23, 24, 25, 26, 27, 28, 29, 30, 12, 31, 32, 33, 34, 35, 7, 8, 10, 36, 37, 38, 39, 40, 41] rfl (by decide +kernel)
set_option maxRecDepth 20000 in
theorem gX4_split_X4_gather : GoodIn wsX4_split (wsV RX4 34 RX4 yX4_gather wsX4_gather) := goodIn_app (goodIn_of _ (by decide +kernel)) ggX4_split_X4_gather
theorem dX4_split_0 : decode cX4_split 0 = .ok (.aload_n 1, 1) := by decide +kernel
theorem dX4_split_1 : decode cX4_split 1 = .ok (.invokevirtual 22, 3) := by decide +kernel
theorem dX4_split_4 : decode cX4_split 4 = .ok (.aload_n 2, 1) := by decide +kernel
theorem dX4_split_5 : decode cX4_split 5 = .ok (.arraylength, 1) := by decide +kernel
theorem dX4_split_6 : decode cX4_split 6 = .ok (.invokestatic 28, 3) := by decide +kernel
theorem dX4_split_9 : decode cX4_split 9 = .ok (.istore 5, 2) := by decide +kernel
theorem dX4_split_11 : decode cX4_split 11 = .ok (.iconst 0, 1) := by decide +kernel
theorem dX4_split_12 : decode cX4_split 12 = .ok (.istore 6, 2) := by decide +kernel
theorem dX4_split_14 : decode cX4_split 14 = .ok (.iload 6, 2) := by decide +kernel
theorem dX4_split_16 : decode cX4_split 16 = .ok (.iload 5, 2) := by decide +kernel
theorem dX4_split_18 : decode cX4_split 18 = .ok (.if_icmp .ge 19, 3) := by decide +kernel
theorem dX4_split_21 : decode cX4_split 21 = .ok (.aload_n 0, 1) := by decide +kernel
theorem dX4_split_22 : decode cX4_split 22 = .ok (.getfield 9, 3) := by decide +kernel
theorem dX4_split_25 : decode cX4_split 25 = .ok (.iload 6, 2) := by decide +kernel
theorem dX4_split_27 : decode cX4_split 27 = .ok (.sipush (-999), 3) := by decide +kernel
theorem dX4_split_30 : decode cX4_split 30 = .ok (.iastore, 1) := by decide +kernel
theorem dX4_split_31 : decode cX4_split 31 = .ok (.iinc 6 1, 3) := by decide +kernel
theorem dX4_split_34 : decode cX4_split 34 = .ok (.goto (-20), 3) := by decide +kernel
theorem dX4_split_37 : decode cX4_split 37 = .ok (.iconst 0, 1) := by decide +kernel
theorem dX4_split_38 : decode cX4_split 38 = .ok (.istore 6, 2) := by decide +kernel
theorem dX4_split_40 : decode cX4_split 40 = .ok (.iconst 0, 1) := by decide +kernel
theorem dX4_split_41 : decode cX4_split 41 = .ok (.istore 7, 2) := by decide +kernel
theorem dX4_split_43 : decode cX4_split 43 = .ok (.iload 7, 2) := by decide +kernel
theorem dX4_split_45 : decode cX4_split 45 = .ok (.iload 5, 2) := by decide +kernel
theorem dX4_split_47 : decode cX4_split 47 = .ok (.if_icmp .ge 43, 3) := by decide +kernel
theorem dX4_split_50 : decode cX4_split 50 = .ok (.aload_n 2, 1) := by decide +kernel
theorem dX4_split_51 : decode cX4_split 51 = .ok (.iload 7, 2) := by decide +kernel
theorem dX4_split_53 : decode cX4_split 53 = .ok (.baload, 1) := by decide +kernel
theorem dX4_split_54 : decode cX4_split 54 = .ok (.iload_n 3, 1) := by decide +kernel
theorem dX4_split_55 : decode cX4_split 55 = .ok (.if_icmp .ne 29, 3) := by decide +kernel
theorem dX4_split_58 : decode cX4_split 58 = .ok (.aload_n 0, 1) := by decide +kernel
theorem dX4_split_59 : decode cX4_split 59 = .ok (.getfield 9, 3) := by decide +kernel
theorem dX4_split_62 : decode cX4_split 62 = .ok (.iload 7, 2) := by decide +kernel
theorem dX4_split_64 : decode cX4_split 64 = .ok (.iaload, 1) := by decide +kernel
theorem dX4_split_65 : decode cX4_split 65 = .ok (.sipush (-999), 3) := by decide +kernel
theorem dX4_split_68 : decode cX4_split 68 = .ok (.if_icmp .ne 16, 3) := by decide +kernel
theorem dX4_split_71 : decode cX4_split 71 = .ok (.aload_n 0, 1) := by decide +kernel
theorem dX4_split_72 : decode cX4_split 72 = .ok (.aload_n 1, 1) := by decide +kernel
theorem dX4_split_73 : decode cX4_split 73 = .ok (.aload_n 2, 1) := by decide +kernel
theorem dX4_split_74 : decode cX4_split 74 = .ok (.iload 7, 2) := by decide +kernel
theorem dX4_split_76 : decode cX4_split 76 = .ok (.iload 4, 2) := by decide +kernel
theorem dX4_split_78 : decode cX4_split 78 = .ok (.invokevirtual 34, 3) := by decide +kernel
theorem dX4_split_81 : decode cX4_split 81 = .ok (.iinc 6 1, 3) := by decide +kernel
theorem dX4_split_84 : decode cX4_split 84 = .ok (.iinc 7 1, 3) := by decide +kernel
theorem dX4_split_87 : decode cX4_split 87 = .ok (.goto (-44), 3) := by decide +kernel
theorem dX4_split_90 : decode cX4_split 90 = .ok (.iload 6, 2) := by decide +kernel
theorem dX4_split_92 : decode cX4_split 92 = .ok (.ireturn, 1) := by decide +kernel
theorem dX4_leastOf_0 : decode cX4_leastOf 0 = .ok (.iload_n 1, 1) := by decide +kernel
theorem dX4_leastOf_1 : decode cX4_leastOf 1 = .ok (.ifCond .lt 19, 3) := by decide +kernel
theorem dX4_leastOf_4 : decode cX4_leastOf 4 = .ok (.iload_n 1, 1) := by decide +kernel
theorem dX4_leastOf_5 : decode cX4_leastOf 5 = .ok (.sipush 144, 3) := by decide +kernel
theorem dX4_leastOf_8 : decode cX4_leastOf 8 = .ok (.if_icmp .ge 12, 3) := by decide +kernel
theorem dX4_leastOf_11 : decode cX4_leastOf 11 = .ok (.aload_n 0, 1) := by decide +kernel
theorem dX4_leastOf_12 : decode cX4_leastOf 12 = .ok (.getfield 9, 3) := by decide +kernel
theorem dX4_leastOf_15 : decode cX4_leastOf 15 = .ok (.iload_n 1, 1) := by decide +kernel
theorem dX4_leastOf_16 : decode cX4_leastOf 16 = .ok (.iaload, 1) := by decide +kernel
theorem dX4_leastOf_17 : decode cX4_leastOf 17 = .ok (.goto 6, 3) := by decide +kernel
theorem dX4_leastOf_20 : decode cX4_leastOf 20 = .ok (.sipush (-999), 3) := by decide +kernel
theorem dX4_leastOf_23 : decode cX4_leastOf 23 = .ok (.ireturn, 1) := by decide +kernel
set_option maxRecDepth 20000 in
theorem ggX4_shutParts_X4_findOpen : GoodIn wsX4_shutParts wsX4_findOpen := goodIn_r _ [7, 2, 1, 8, 9, 10, 11, 12, 13, 14, 15, 16, 17, 18, 19, 20, 21, 22, 23, 24, 25, 26, 27, 28, 29, 30, 31, 32] rfl (by decide +kernel)
set_option maxRecDepth 20000 in
theorem gX4_shutParts_X4_findOpen : GoodIn wsX4_shutParts (wsV RX4 38 RX4 yX4_findOpen wsX4_findOpen) := goodIn_app (goodIn_of _ (by decide +kernel)) ggX4_shutParts_X4_findOpen
set_option maxRecDepth 20000 in
theorem ggX4_shutParts_X2_fields : GoodIn wsX4_shutParts wsX2_fields := goodIn_r _ [12, 13, 14, 30, 31, 32] rfl (by decide +kernel)
set_option maxRecDepth 20000 in
theorem gX4_shutParts_X2_fields : GoodIn wsX4_shutParts (wsV RX4 22 RX2 yX2_fields wsX2_fields) := goodIn_app (goodIn_of _ (by decide +kernel)) ggX4_shutParts_X2_fields
theorem dX4_shutParts_0 : decode cX4_shutParts 0 = .ok (.aload_n 0, 1) := by decide +kernel
theorem dX4_shutParts_1 : decode cX4_shutParts 1 = .ok (.aload_n 1, 1) := by decide +kernel
theorem dX4_shutParts_2 : decode cX4_shutParts 2 = .ok (.invokevirtual 38, 3) := by decide +kernel
theorem dX4_shutParts_5 : decode cX4_shutParts 5 = .ok (.iconst 0, 1) := by decide +kernel
theorem dX4_shutParts_6 : decode cX4_shutParts 6 = .ok (.istore_n 2, 1) := by decide +kernel
theorem dX4_shutParts_7 : decode cX4_shutParts 7 = .ok (.iconst 0, 1) := by decide +kernel
theorem dX4_shutParts_8 : decode cX4_shutParts 8 = .ok (.istore_n 3, 1) := by decide +kernel
theorem dX4_shutParts_9 : decode cX4_shutParts 9 = .ok (.iload_n 3, 1) := by decide +kernel
theorem dX4_shutParts_10 : decode cX4_shutParts 10 = .ok (.aload_n 1, 1) := by decide +kernel
theorem dX4_shutParts_11 : decode cX4_shutParts 11 = .ok (.invokevirtual 22, 3) := by decide +kernel
theorem dX4_shutParts_14 : decode cX4_shutParts 14 = .ok (.if_icmp .ge 31, 3) := by decide +kernel
theorem dX4_shutParts_17 : decode cX4_shutParts 17 = .ok (.aload_n 0, 1) := by decide +kernel
theorem dX4_shutParts_18 : decode cX4_shutParts 18 = .ok (.getfield 9, 3) := by decide +kernel
theorem dX4_shutParts_21 : decode cX4_shutParts 21 = .ok (.iload_n 3, 1) := by decide +kernel
theorem dX4_shutParts_22 : decode cX4_shutParts 22 = .ok (.iaload, 1) := by decide +kernel
theorem dX4_shutParts_23 : decode cX4_shutParts 23 = .ok (.iload_n 3, 1) := by decide +kernel
theorem dX4_shutParts_24 : decode cX4_shutParts 24 = .ok (.if_icmp .ne 15, 3) := by decide +kernel
theorem dX4_shutParts_27 : decode cX4_shutParts 27 = .ok (.aload_n 0, 1) := by decide +kernel
theorem dX4_shutParts_28 : decode cX4_shutParts 28 = .ok (.getfield 18, 3) := by decide +kernel
theorem dX4_shutParts_31 : decode cX4_shutParts 31 = .ok (.iload_n 3, 1) := by decide +kernel
theorem dX4_shutParts_32 : decode cX4_shutParts 32 = .ok (.baload, 1) := by decide +kernel
theorem dX4_shutParts_33 : decode cX4_shutParts 33 = .ok (.ifCond .ne 6, 3) := by decide +kernel
theorem dX4_shutParts_36 : decode cX4_shutParts 36 = .ok (.iinc 2 1, 3) := by decide +kernel
theorem dX4_shutParts_39 : decode cX4_shutParts 39 = .ok (.iinc 3 1, 3) := by decide +kernel
theorem dX4_shutParts_42 : decode cX4_shutParts 42 = .ok (.goto (-33), 3) := by decide +kernel
theorem dX4_shutParts_45 : decode cX4_shutParts 45 = .ok (.iload_n 2, 1) := by decide +kernel
theorem dX4_shutParts_46 : decode cX4_shutParts 46 = .ok (.ireturn, 1) := by decide +kernel
set_option maxRecDepth 20000 in
theorem ggX4_findOpen_X2_fields : GoodIn wsX4_findOpen wsX2_fields := goodIn_r _ [7, 8, 9, 25, 26, 27] rfl (by decide +kernel)
set_option maxRecDepth 20000 in
theorem gX4_findOpen_X2_fields : GoodIn wsX4_findOpen (wsV RX4 22 RX2 yX2_fields wsX2_fields) := goodIn_app (goodIn_of _ (by decide +kernel)) ggX4_findOpen_X2_fields
set_option maxRecDepth 20000 in
theorem ggX4_findOpen_X2_onEdge : GoodIn wsX4_findOpen wsX2_onEdge := goodIn_r _ [13, 8, 9, 14, 15, 16, 6, 17, 18, 19, 20, 21, 25, 26, 27] rfl (by decide +kernel)
set_option maxRecDepth 20000 in
theorem gX4_findOpen_X2_onEdge : GoodIn wsX4_findOpen (wsV RX4 42 RX2 yX2_onEdge wsX2_onEdge) := goodIn_app (goodIn_of _ (by decide +kernel)) ggX4_findOpen_X2_onEdge
theorem dX4_findOpen_0 : decode cX4_findOpen 0 = .ok (.iconst 0, 1) := by decide +kernel
theorem dX4_findOpen_1 : decode cX4_findOpen 1 = .ok (.istore_n 2, 1) := by decide +kernel
theorem dX4_findOpen_2 : decode cX4_findOpen 2 = .ok (.iload_n 2, 1) := by decide +kernel
theorem dX4_findOpen_3 : decode cX4_findOpen 3 = .ok (.aload_n 1, 1) := by decide +kernel
theorem dX4_findOpen_4 : decode cX4_findOpen 4 = .ok (.invokevirtual 22, 3) := by decide +kernel
theorem dX4_findOpen_7 : decode cX4_findOpen 7 = .ok (.if_icmp .ge 16, 3) := by decide +kernel
theorem dX4_findOpen_10 : decode cX4_findOpen 10 = .ok (.aload_n 0, 1) := by decide +kernel
theorem dX4_findOpen_11 : decode cX4_findOpen 11 = .ok (.getfield 18, 3) := by decide +kernel
theorem dX4_findOpen_14 : decode cX4_findOpen 14 = .ok (.iload_n 2, 1) := by decide +kernel
theorem dX4_findOpen_15 : decode cX4_findOpen 15 = .ok (.iconst 0, 1) := by decide +kernel
theorem dX4_findOpen_16 : decode cX4_findOpen 16 = .ok (.bastore, 1) := by decide +kernel
theorem dX4_findOpen_17 : decode cX4_findOpen 17 = .ok (.iinc 2 1, 3) := by decide +kernel
theorem dX4_findOpen_20 : decode cX4_findOpen 20 = .ok (.goto (-18), 3) := by decide +kernel
theorem dX4_findOpen_23 : decode cX4_findOpen 23 = .ok (.iconst 0, 1) := by decide +kernel
theorem dX4_findOpen_24 : decode cX4_findOpen 24 = .ok (.istore_n 2, 1) := by decide +kernel
theorem dX4_findOpen_25 : decode cX4_findOpen 25 = .ok (.iload_n 2, 1) := by decide +kernel
theorem dX4_findOpen_26 : decode cX4_findOpen 26 = .ok (.aload_n 1, 1) := by decide +kernel
theorem dX4_findOpen_27 : decode cX4_findOpen 27 = .ok (.invokevirtual 22, 3) := by decide +kernel
theorem dX4_findOpen_30 : decode cX4_findOpen 30 = .ok (.if_icmp .ge 42, 3) := by decide +kernel
theorem dX4_findOpen_33 : decode cX4_findOpen 33 = .ok (.aload_n 0, 1) := by decide +kernel
theorem dX4_findOpen_34 : decode cX4_findOpen 34 = .ok (.getfield 9, 3) := by decide +kernel
theorem dX4_findOpen_37 : decode cX4_findOpen 37 = .ok (.iload_n 2, 1) := by decide +kernel
theorem dX4_findOpen_38 : decode cX4_findOpen 38 = .ok (.iaload, 1) := by decide +kernel
theorem dX4_findOpen_39 : decode cX4_findOpen 39 = .ok (.istore_n 3, 1) := by decide +kernel
theorem dX4_findOpen_40 : decode cX4_findOpen 40 = .ok (.iload_n 3, 1) := by decide +kernel
theorem dX4_findOpen_41 : decode cX4_findOpen 41 = .ok (.ifCond .lt 25, 3) := by decide +kernel
theorem dX4_findOpen_44 : decode cX4_findOpen 44 = .ok (.iload_n 3, 1) := by decide +kernel
theorem dX4_findOpen_45 : decode cX4_findOpen 45 = .ok (.sipush 144, 3) := by decide +kernel
theorem dX4_findOpen_48 : decode cX4_findOpen 48 = .ok (.if_icmp .ge 18, 3) := by decide +kernel
theorem dX4_findOpen_51 : decode cX4_findOpen 51 = .ok (.aload_n 1, 1) := by decide +kernel
theorem dX4_findOpen_52 : decode cX4_findOpen 52 = .ok (.iload_n 2, 1) := by decide +kernel
theorem dX4_findOpen_53 : decode cX4_findOpen 53 = .ok (.invokevirtual 42, 3) := by decide +kernel
theorem dX4_findOpen_56 : decode cX4_findOpen 56 = .ok (.ifCond .eq 10, 3) := by decide +kernel
theorem dX4_findOpen_59 : decode cX4_findOpen 59 = .ok (.aload_n 0, 1) := by decide +kernel
theorem dX4_findOpen_60 : decode cX4_findOpen 60 = .ok (.getfield 18, 3) := by decide +kernel
theorem dX4_findOpen_63 : decode cX4_findOpen 63 = .ok (.iload_n 3, 1) := by decide +kernel
theorem dX4_findOpen_64 : decode cX4_findOpen 64 = .ok (.iconst 1, 1) := by decide +kernel
theorem dX4_findOpen_65 : decode cX4_findOpen 65 = .ok (.bastore, 1) := by decide +kernel
theorem dX4_findOpen_66 : decode cX4_findOpen 66 = .ok (.iinc 2 1, 3) := by decide +kernel
theorem dX4_findOpen_69 : decode cX4_findOpen 69 = .ok (.goto (-44), 3) := by decide +kernel
theorem dX4_findOpen_72 : decode cX4_findOpen 72 = .ok (.return_, 1) := by decide +kernel
set_option maxRecDepth 20000 in
theorem ggX4_comesToEdge_X4_leastOf : GoodIn wsX4_comesToEdge wsX4_leastOf := goodIn_r _ [6, 7, 8, 9, 10] rfl (by decide +kernel)
set_option maxRecDepth 20000 in
theorem gX4_comesToEdge_X4_leastOf : GoodIn wsX4_comesToEdge (wsV RX4 46 RX4 yX4_leastOf wsX4_leastOf) := goodIn_app (goodIn_of _ (by decide +kernel)) ggX4_comesToEdge_X4_leastOf
theorem dX4_comesToEdge_0 : decode cX4_comesToEdge 0 = .ok (.aload_n 0, 1) := by decide +kernel
theorem dX4_comesToEdge_1 : decode cX4_comesToEdge 1 = .ok (.iload_n 1, 1) := by decide +kernel
theorem dX4_comesToEdge_2 : decode cX4_comesToEdge 2 = .ok (.invokevirtual 46, 3) := by decide +kernel
theorem dX4_comesToEdge_5 : decode cX4_comesToEdge 5 = .ok (.istore_n 2, 1) := by decide +kernel
theorem dX4_comesToEdge_6 : decode cX4_comesToEdge 6 = .ok (.iload_n 2, 1) := by decide +kernel
theorem dX4_comesToEdge_7 : decode cX4_comesToEdge 7 = .ok (.ifCond .lt 23, 3) := by decide +kernel
theorem dX4_comesToEdge_10 : decode cX4_comesToEdge 10 = .ok (.iload_n 2, 1) := by decide +kernel
theorem dX4_comesToEdge_11 : decode cX4_comesToEdge 11 = .ok (.sipush 144, 3) := by decide +kernel
theorem dX4_comesToEdge_14 : decode cX4_comesToEdge 14 = .ok (.if_icmp .ge 16, 3) := by decide +kernel
theorem dX4_comesToEdge_17 : decode cX4_comesToEdge 17 = .ok (.aload_n 0, 1) := by decide +kernel
theorem dX4_comesToEdge_18 : decode cX4_comesToEdge 18 = .ok (.getfield 18, 3) := by decide +kernel
theorem dX4_comesToEdge_21 : decode cX4_comesToEdge 21 = .ok (.iload_n 2, 1) := by decide +kernel
theorem dX4_comesToEdge_22 : decode cX4_comesToEdge 22 = .ok (.baload, 1) := by decide +kernel
theorem dX4_comesToEdge_23 : decode cX4_comesToEdge 23 = .ok (.ifCond .eq 7, 3) := by decide +kernel
theorem dX4_comesToEdge_26 : decode cX4_comesToEdge 26 = .ok (.iconst 1, 1) := by decide +kernel
theorem dX4_comesToEdge_27 : decode cX4_comesToEdge 27 = .ok (.goto 4, 3) := by decide +kernel
theorem dX4_comesToEdge_30 : decode cX4_comesToEdge 30 = .ok (.iconst 0, 1) := by decide +kernel
theorem dX4_comesToEdge_31 : decode cX4_comesToEdge 31 = .ok (.ireturn, 1) := by decide +kernel
set_option maxRecDepth 20000 in
theorem ggX4_gather_X2_columnOf : GoodIn wsX4_gather wsX2_columnOf := goodIn_r _ [7, 8, 29, 30, 31] rfl (by decide +kernel)
set_option maxRecDepth 20000 in
theorem gX4_gather_X2_columnOf : GoodIn wsX4_gather (wsV RX4 50 RX2 yX2_columnOf wsX2_columnOf) := goodIn_app (goodIn_of _ (by decide +kernel)) ggX4_gather_X2_columnOf
set_option maxRecDepth 20000 in
theorem ggX4_gather_X2_lineOf : GoodIn wsX4_gather wsX2_lineOf := goodIn_r _ [12, 8, 29, 30, 31] rfl (by decide +kernel)
set_option maxRecDepth 20000 in
theorem gX4_gather_X2_lineOf : GoodIn wsX4_gather (wsV RX4 53 RX2 yX2_lineOf wsX2_lineOf) := goodIn_app (goodIn_of _ (by decide +kernel)) ggX4_gather_X2_lineOf
set_option maxRecDepth 20000 in
theorem ggX4_gather_X2_fieldAt : GoodIn wsX4_gather wsX2_fieldAt := goodIn_r _ [16, 8, 17, 29, 30, 31] rfl (by decide +kernel)
set_option maxRecDepth 20000 in
theorem gX4_gather_X2_fieldAt : GoodIn wsX4_gather (wsV RX4 62 RX2 yX2_fieldAt wsX2_fieldAt) := goodIn_app (goodIn_of _ (by decide +kernel)) ggX4_gather_X2_fieldAt
set_option maxRecDepth 20000 in
theorem ggX4_gather_X2_knows : GoodIn wsX4_gather wsX2_knows := goodIn_r _ [21, 22, 23, 24, 6, 25, 8, 17, 29, 30, 31] rfl (by decide +kernel)
set_option maxRecDepth 20000 in
theorem gX4_gather_X2_knows : GoodIn wsX4_gather (wsV RX4 65 RX2 yX2_knows wsX2_knows) := goodIn_app (goodIn_of _ (by decide +kernel)) ggX4_gather_X2_knows
theorem dX4_gather_0 : decode cX4_gather 0 = .ok (.aload_n 0, 1) := by decide +kernel
theorem dX4_gather_1 : decode cX4_gather 1 = .ok (.getfield 9, 3) := by decide +kernel
theorem dX4_gather_4 : decode cX4_gather 4 = .ok (.iload_n 3, 1) := by decide +kernel
theorem dX4_gather_5 : decode cX4_gather 5 = .ok (.iload_n 3, 1) := by decide +kernel
theorem dX4_gather_6 : decode cX4_gather 6 = .ok (.iastore, 1) := by decide +kernel
theorem dX4_gather_7 : decode cX4_gather 7 = .ok (.aload_n 0, 1) := by decide +kernel
theorem dX4_gather_8 : decode cX4_gather 8 = .ok (.getfield 15, 3) := by decide +kernel
theorem dX4_gather_11 : decode cX4_gather 11 = .ok (.iconst 0, 1) := by decide +kernel
theorem dX4_gather_12 : decode cX4_gather 12 = .ok (.iload_n 3, 1) := by decide +kernel
theorem dX4_gather_13 : decode cX4_gather 13 = .ok (.iastore, 1) := by decide +kernel
theorem dX4_gather_14 : decode cX4_gather 14 = .ok (.iconst 1, 1) := by decide +kernel
theorem dX4_gather_15 : decode cX4_gather 15 = .ok (.istore 5, 2) := by decide +kernel
theorem dX4_gather_17 : decode cX4_gather 17 = .ok (.iconst 0, 1) := by decide +kernel
theorem dX4_gather_18 : decode cX4_gather 18 = .ok (.istore 6, 2) := by decide +kernel
theorem dX4_gather_20 : decode cX4_gather 20 = .ok (.iload 6, 2) := by decide +kernel
theorem dX4_gather_22 : decode cX4_gather 22 = .ok (.iload 5, 2) := by decide +kernel
theorem dX4_gather_24 : decode cX4_gather 24 = .ok (.if_icmp .ge 167, 3) := by decide +kernel
theorem dX4_gather_27 : decode cX4_gather 27 = .ok (.iload 6, 2) := by decide +kernel
theorem dX4_gather_29 : decode cX4_gather 29 = .ok (.sipush 144, 3) := by decide +kernel
theorem dX4_gather_32 : decode cX4_gather 32 = .ok (.if_icmp .ge 159, 3) := by decide +kernel
theorem dX4_gather_35 : decode cX4_gather 35 = .ok (.aload_n 1, 1) := by decide +kernel
theorem dX4_gather_36 : decode cX4_gather 36 = .ok (.aload_n 0, 1) := by decide +kernel
theorem dX4_gather_37 : decode cX4_gather 37 = .ok (.getfield 15, 3) := by decide +kernel
theorem dX4_gather_40 : decode cX4_gather 40 = .ok (.iload 6, 2) := by decide +kernel
theorem dX4_gather_42 : decode cX4_gather 42 = .ok (.iaload, 1) := by decide +kernel
theorem dX4_gather_43 : decode cX4_gather 43 = .ok (.invokevirtual 50, 3) := by decide +kernel
theorem dX4_gather_46 : decode cX4_gather 46 = .ok (.istore 7, 2) := by decide +kernel
theorem dX4_gather_48 : decode cX4_gather 48 = .ok (.aload_n 1, 1) := by decide +kernel
theorem dX4_gather_49 : decode cX4_gather 49 = .ok (.aload_n 0, 1) := by decide +kernel
theorem dX4_gather_50 : decode cX4_gather 50 = .ok (.getfield 15, 3) := by decide +kernel
theorem dX4_gather_53 : decode cX4_gather 53 = .ok (.iload 6, 2) := by decide +kernel
theorem dX4_gather_55 : decode cX4_gather 55 = .ok (.iaload, 1) := by decide +kernel
theorem dX4_gather_56 : decode cX4_gather 56 = .ok (.invokevirtual 53, 3) := by decide +kernel
theorem dX4_gather_59 : decode cX4_gather 59 = .ok (.istore 8, 2) := by decide +kernel
theorem dX4_gather_61 : decode cX4_gather 61 = .ok (.iconst 0, 1) := by decide +kernel
theorem dX4_gather_62 : decode cX4_gather 62 = .ok (.istore 9, 2) := by decide +kernel
theorem dX4_gather_64 : decode cX4_gather 64 = .ok (.iload 9, 2) := by decide +kernel
theorem dX4_gather_66 : decode cX4_gather 66 = .ok (.bipush 8, 2) := by decide +kernel
theorem dX4_gather_68 : decode cX4_gather 68 = .ok (.if_icmp .ge 117, 3) := by decide +kernel
theorem dX4_gather_71 : decode cX4_gather 71 = .ok (.aload_n 1, 1) := by decide +kernel
theorem dX4_gather_72 : decode cX4_gather 72 = .ok (.iload 7, 2) := by decide +kernel
theorem dX4_gather_74 : decode cX4_gather 74 = .ok (.getstatic 56, 3) := by decide +kernel
theorem dX4_gather_77 : decode cX4_gather 77 = .ok (.iload 9, 2) := by decide +kernel
theorem dX4_gather_79 : decode cX4_gather 79 = .ok (.iaload, 1) := by decide +kernel
theorem dX4_gather_80 : decode cX4_gather 80 = .ok (.iadd, 1) := by decide +kernel
theorem dX4_gather_81 : decode cX4_gather 81 = .ok (.iload 8, 2) := by decide +kernel
theorem dX4_gather_83 : decode cX4_gather 83 = .ok (.getstatic 59, 3) := by decide +kernel
theorem dX4_gather_86 : decode cX4_gather 86 = .ok (.iload 9, 2) := by decide +kernel
theorem dX4_gather_88 : decode cX4_gather 88 = .ok (.iaload, 1) := by decide +kernel
theorem dX4_gather_89 : decode cX4_gather 89 = .ok (.iadd, 1) := by decide +kernel
theorem dX4_gather_90 : decode cX4_gather 90 = .ok (.invokevirtual 62, 3) := by decide +kernel
theorem dX4_gather_93 : decode cX4_gather 93 = .ok (.istore 10, 2) := by decide +kernel
theorem dX4_gather_95 : decode cX4_gather 95 = .ok (.aload_n 1, 1) := by decide +kernel
theorem dX4_gather_96 : decode cX4_gather 96 = .ok (.iload 10, 2) := by decide +kernel
theorem dX4_gather_98 : decode cX4_gather 98 = .ok (.invokevirtual 65, 3) := by decide +kernel
theorem dX4_gather_101 : decode cX4_gather 101 = .ok (.ifCond .eq 30, 3) := by decide +kernel
theorem dX4_gather_104 : decode cX4_gather 104 = .ok (.aload_n 2, 1) := by decide +kernel
theorem dX4_gather_105 : decode cX4_gather 105 = .ok (.iload 10, 2) := by decide +kernel
theorem dX4_gather_107 : decode cX4_gather 107 = .ok (.baload, 1) := by decide +kernel
theorem dX4_gather_108 : decode cX4_gather 108 = .ok (.aload_n 2, 1) := by decide +kernel
theorem dX4_gather_109 : decode cX4_gather 109 = .ok (.iload_n 3, 1) := by decide +kernel
theorem dX4_gather_110 : decode cX4_gather 110 = .ok (.baload, 1) := by decide +kernel
theorem dX4_gather_111 : decode cX4_gather 111 = .ok (.if_icmp .ne 20, 3) := by decide +kernel
theorem dX4_gather_114 : decode cX4_gather 114 = .ok (.aload_n 0, 1) := by decide +kernel
theorem dX4_gather_115 : decode cX4_gather 115 = .ok (.getfield 9, 3) := by decide +kernel
theorem dX4_gather_118 : decode cX4_gather 118 = .ok (.iload 10, 2) := by decide +kernel
theorem dX4_gather_120 : decode cX4_gather 120 = .ok (.iaload, 1) := by decide +kernel
theorem dX4_gather_121 : decode cX4_gather 121 = .ok (.sipush (-999), 3) := by decide +kernel
theorem dX4_gather_124 : decode cX4_gather 124 = .ok (.if_icmp .ne 7, 3) := by decide +kernel
theorem dX4_gather_127 : decode cX4_gather 127 = .ok (.iconst 1, 1) := by decide +kernel
theorem dX4_gather_128 : decode cX4_gather 128 = .ok (.goto 4, 3) := by decide +kernel
theorem dX4_gather_131 : decode cX4_gather 131 = .ok (.iconst 0, 1) := by decide +kernel
theorem dX4_gather_132 : decode cX4_gather 132 = .ok (.istore 11, 2) := by decide +kernel
theorem dX4_gather_134 : decode cX4_gather 134 = .ok (.iload 11, 2) := by decide +kernel
theorem dX4_gather_136 : decode cX4_gather 136 = .ok (.ifCond .eq 31, 3) := by decide +kernel
theorem dX4_gather_139 : decode cX4_gather 139 = .ok (.iload 5, 2) := by decide +kernel
theorem dX4_gather_141 : decode cX4_gather 141 = .ok (.sipush 144, 3) := by decide +kernel
theorem dX4_gather_144 : decode cX4_gather 144 = .ok (.if_icmp .ge 23, 3) := by decide +kernel
theorem dX4_gather_147 : decode cX4_gather 147 = .ok (.aload_n 0, 1) := by decide +kernel
theorem dX4_gather_148 : decode cX4_gather 148 = .ok (.getfield 9, 3) := by decide +kernel
theorem dX4_gather_151 : decode cX4_gather 151 = .ok (.iload 10, 2) := by decide +kernel
theorem dX4_gather_153 : decode cX4_gather 153 = .ok (.iload_n 3, 1) := by decide +kernel
theorem dX4_gather_154 : decode cX4_gather 154 = .ok (.iastore, 1) := by decide +kernel
theorem dX4_gather_155 : decode cX4_gather 155 = .ok (.aload_n 0, 1) := by decide +kernel
theorem dX4_gather_156 : decode cX4_gather 156 = .ok (.getfield 15, 3) := by decide +kernel
theorem dX4_gather_159 : decode cX4_gather 159 = .ok (.iload 5, 2) := by decide +kernel
theorem dX4_gather_161 : decode cX4_gather 161 = .ok (.iload 10, 2) := by decide +kernel
theorem dX4_gather_163 : decode cX4_gather 163 = .ok (.iastore, 1) := by decide +kernel
theorem dX4_gather_164 : decode cX4_gather 164 = .ok (.iinc 5 1, 3) := by decide +kernel
theorem dX4_gather_167 : decode cX4_gather 167 = .ok (.iload 9, 2) := by decide +kernel
theorem dX4_gather_169 : decode cX4_gather 169 = .ok (.iload 4, 2) := by decide +kernel
theorem dX4_gather_171 : decode cX4_gather 171 = .ok (.ifCond .eq 7, 3) := by decide +kernel
theorem dX4_gather_174 : decode cX4_gather 174 = .ok (.iconst 1, 1) := by decide +kernel
theorem dX4_gather_175 : decode cX4_gather 175 = .ok (.goto 4, 3) := by decide +kernel
theorem dX4_gather_178 : decode cX4_gather 178 = .ok (.iconst 2, 1) := by decide +kernel
theorem dX4_gather_179 : decode cX4_gather 179 = .ok (.iadd, 1) := by decide +kernel
theorem dX4_gather_180 : decode cX4_gather 180 = .ok (.istore 9, 2) := by decide +kernel
theorem dX4_gather_182 : decode cX4_gather 182 = .ok (.goto (-118), 3) := by decide +kernel
theorem dX4_gather_185 : decode cX4_gather 185 = .ok (.iinc 6 1, 3) := by decide +kernel
theorem dX4_gather_188 : decode cX4_gather 188 = .ok (.goto (-168), 3) := by decide +kernel
theorem dX4_gather_191 : decode cX4_gather 191 = .ok (.return_, 1) := by decide +kernel
theorem dX5_init_0 : decode cX5_init 0 = .ok (.aload_n 0, 1) := by decide +kernel
theorem dX5_init_1 : decode cX5_init 1 = .ok (.invokespecial 3, 3) := by decide +kernel
theorem dX5_init_4 : decode cX5_init 4 = .ok (.aload_n 0, 1) := by decide +kernel
theorem dX5_init_5 : decode cX5_init 5 = .ok (.bipush 61, 2) := by decide +kernel
theorem dX5_init_7 : decode cX5_init 7 = .ok (.newarray .int, 2) := by decide +kernel
theorem dX5_init_9 : decode cX5_init 9 = .ok (.putfield 9, 3) := by decide +kernel
theorem dX5_init_12 : decode cX5_init 12 = .ok (.return_, 1) := by decide +kernel
set_option maxRecDepth 20000 in
theorem ggX5_measure_X5_begin : GoodIn wsX5_measure wsX5_begin := goodIn_r _ [5, 6, 7, 8, 9, 10, 11, 32, 33, 34, 35, 36, 37, 38] rfl (by decide +kernel)
set_option maxRecDepth 20000 in
theorem gX5_measure_X5_begin : GoodIn wsX5_measure (wsV RX5 15 RX5 yX5_begin wsX5_begin) := goodIn_app (goodIn_of _ (by decide +kernel)) ggX5_measure_X5_begin
set_option maxRecDepth 20000 in
theorem ggX5_measure_X6_wayOf : GoodIn wsX5_measure wsX6_wayOf := goodIn_r _ [16, 17, 18, 19, 20, 15, 21, 22, 39, 40, 41, 42] rfl (by decide +kernel)
set_option maxRecDepth 20000 in
theorem gX5_measure_X6_wayOf : GoodIn wsX5_measure (wsV RX5 18 RX6 yX6_wayOf wsX6_wayOf) := goodIn_app (goodIn_of _ (by decide +kernel)) ggX5_measure_X6_wayOf
set_option maxRecDepth 20000 in
theorem ggX5_measure_X5_grow : GoodIn wsX5_measure wsX5_grow := goodIn_r _ [26, 6, 7, 27, 28, 29, 30, 4, 31, 9, 8, 11, 10, 32, 33, 34, 35, 36, 37, 38] rfl (by decide +kernel)
set_option maxRecDepth 20000 in
theorem gX5_measure_X5_grow : GoodIn wsX5_measure (wsV RX5 24 RX5 yX5_grow wsX5_grow) := goodIn_app (goodIn_of _ (by decide +kernel)) ggX5_measure_X5_grow
theorem dX5_measure_0 : decode cX5_measure 0 = .ok (.aload_n 0, 1) := by decide +kernel
theorem dX5_measure_1 : decode cX5_measure 1 = .ok (.invokevirtual 15, 3) := by decide +kernel
theorem dX5_measure_4 : decode cX5_measure 4 = .ok (.iload_n 2, 1) := by decide +kernel
theorem dX5_measure_5 : decode cX5_measure 5 = .ok (.istore 4, 2) := by decide +kernel
theorem dX5_measure_7 : decode cX5_measure 7 = .ok (.iload 4, 2) := by decide +kernel
theorem dX5_measure_9 : decode cX5_measure 9 = .ok (.iload_n 3, 1) := by decide +kernel
theorem dX5_measure_10 : decode cX5_measure 10 = .ok (.if_icmp .ge 19, 3) := by decide +kernel
theorem dX5_measure_13 : decode cX5_measure 13 = .ok (.aload_n 0, 1) := by decide +kernel
theorem dX5_measure_14 : decode cX5_measure 14 = .ok (.aload_n 1, 1) := by decide +kernel
theorem dX5_measure_15 : decode cX5_measure 15 = .ok (.iload 4, 2) := by decide +kernel
theorem dX5_measure_17 : decode cX5_measure 17 = .ok (.invokevirtual 18, 3) := by decide +kernel
theorem dX5_measure_20 : decode cX5_measure 20 = .ok (.invokevirtual 24, 3) := by decide +kernel
theorem dX5_measure_23 : decode cX5_measure 23 = .ok (.iinc 4 1, 3) := by decide +kernel
theorem dX5_measure_26 : decode cX5_measure 26 = .ok (.goto (-19), 3) := by decide +kernel
theorem dX5_measure_29 : decode cX5_measure 29 = .ok (.return_, 1) := by decide +kernel
set_option maxRecDepth 20000 in
theorem ggX5_farthest_X5_begin : GoodIn wsX5_farthest wsX5_begin := goodIn_r _ [5, 6, 7, 8, 9, 10, 11, 44, 45, 46, 47, 48, 49, 50] rfl (by decide +kernel)
set_option maxRecDepth 20000 in
theorem gX5_farthest_X5_begin : GoodIn wsX5_farthest (wsV RX5 15 RX5 yX5_begin wsX5_begin) := goodIn_app (goodIn_of _ (by decide +kernel)) ggX5_farthest_X5_begin
set_option maxRecDepth 20000 in
theorem ggX5_farthest_X6_steps : GoodIn wsX5_farthest wsX6_steps := goodIn_r _ [16, 17, 51, 52, 53, 54] rfl (by decide +kernel)
set_option maxRecDepth 20000 in
theorem gX5_farthest_X6_steps : GoodIn wsX5_farthest (wsV RX5 28 RX6 yX6_steps wsX6_steps) := goodIn_app (goodIn_of _ (by decide +kernel)) ggX5_farthest_X6_steps
set_option maxRecDepth 20000 in
theorem ggX5_farthest_X6_wayOf : GoodIn wsX5_farthest wsX6_wayOf := goodIn_r _ [21, 22, 23, 24, 25, 15, 26, 17, 51, 52, 53, 54] rfl (by decide +kernel)
set_option maxRecDepth 20000 in
theorem gX5_farthest_X6_wayOf : GoodIn wsX5_farthest (wsV RX5 18 RX6 yX6_wayOf wsX6_wayOf) := goodIn_app (goodIn_of _ (by decide +kernel)) ggX5_farthest_X6_wayOf
set_option maxRecDepth 20000 in
theorem ggX5_farthest_X5_grow : GoodIn wsX5_farthest wsX5_grow := goodIn_r _ [30, 6, 7, 31, 32, 33, 34, 4, 35, 9, 8, 11, 10, 44, 45, 46, 47, 48, 49, 50] rfl (by decide +kernel)
set_option maxRecDepth 20000 in
theorem gX5_farthest_X5_grow : GoodIn wsX5_farthest (wsV RX5 24 RX5 yX5_grow wsX5_grow) := goodIn_app (goodIn_of _ (by decide +kernel)) ggX5_farthest_X5_grow
set_option maxRecDepth 20000 in
theorem ggX5_farthest_X5_isStraight : GoodIn wsX5_farthest wsX5_isStraight := goodIn_r _ [39, 8, 11, 10, 9, 40, 41, 42, 4, 43, 7, 44, 45, 46, 47, 48, 49, 50] rfl (by decide +kernel)
set_option maxRecDepth 20000 in
theorem gX5_farthest_X5_isStraight : GoodIn wsX5_farthest (wsV RX5 32 RX5 yX5_isStraight wsX5_isStraight) := goodIn_app (goodIn_of _ (by decide +kernel)) ggX5_farthest_X5_isStraight
theorem dX5_farthest_0 : decode cX5_farthest 0 = .ok (.aload_n 0, 1) := by decide +kernel
theorem dX5_farthest_1 : decode cX5_farthest 1 = .ok (.invokevirtual 15, 3) := by decide +kernel
theorem dX5_farthest_4 : decode cX5_farthest 4 = .ok (.iload_n 2, 1) := by decide +kernel
theorem dX5_farthest_5 : decode cX5_farthest 5 = .ok (.istore_n 3, 1) := by decide +kernel
theorem dX5_farthest_6 : decode cX5_farthest 6 = .ok (.iload_n 3, 1) := by decide +kernel
theorem dX5_farthest_7 : decode cX5_farthest 7 = .ok (.aload_n 1, 1) := by decide +kernel
theorem dX5_farthest_8 : decode cX5_farthest 8 = .ok (.invokevirtual 28, 3) := by decide +kernel
theorem dX5_farthest_11 : decode cX5_farthest 11 = .ok (.if_icmp .ge 28, 3) := by decide +kernel
theorem dX5_farthest_14 : decode cX5_farthest 14 = .ok (.aload_n 0, 1) := by decide +kernel
theorem dX5_farthest_15 : decode cX5_farthest 15 = .ok (.aload_n 1, 1) := by decide +kernel
theorem dX5_farthest_16 : decode cX5_farthest 16 = .ok (.iload_n 3, 1) := by decide +kernel
theorem dX5_farthest_17 : decode cX5_farthest 17 = .ok (.invokevirtual 18, 3) := by decide +kernel
theorem dX5_farthest_20 : decode cX5_farthest 20 = .ok (.invokevirtual 24, 3) := by decide +kernel
theorem dX5_farthest_23 : decode cX5_farthest 23 = .ok (.aload_n 0, 1) := by decide +kernel
theorem dX5_farthest_24 : decode cX5_farthest 24 = .ok (.invokevirtual 32, 3) := by decide +kernel
theorem dX5_farthest_27 : decode cX5_farthest 27 = .ok (.ifCond .ne 6, 3) := by decide +kernel
theorem dX5_farthest_30 : decode cX5_farthest 30 = .ok (.goto 9, 3) := by decide +kernel
theorem dX5_farthest_33 : decode cX5_farthest 33 = .ok (.iinc 3 1, 3) := by decide +kernel
theorem dX5_farthest_36 : decode cX5_farthest 36 = .ok (.goto (-30), 3) := by decide +kernel
theorem dX5_farthest_39 : decode cX5_farthest 39 = .ok (.iload_n 3, 1) := by decide +kernel
theorem dX5_farthest_40 : decode cX5_farthest 40 = .ok (.ireturn, 1) := by decide +kernel
theorem dX5_waysFit_0 : decode cX5_waysFit 0 = .ok (.iconst 0, 1) := by decide +kernel
theorem dX5_waysFit_1 : decode cX5_waysFit 1 = .ok (.istore_n 1, 1) := by decide +kernel
theorem dX5_waysFit_2 : decode cX5_waysFit 2 = .ok (.iload_n 1, 1) := by decide +kernel
theorem dX5_waysFit_3 : decode cX5_waysFit 3 = .ok (.bipush 8, 2) := by decide +kernel
theorem dX5_waysFit_5 : decode cX5_waysFit 5 = .ok (.if_icmp .ge 35, 3) := by decide +kernel
theorem dX5_waysFit_8 : decode cX5_waysFit 8 = .ok (.iconst 1, 1) := by decide +kernel
theorem dX5_waysFit_9 : decode cX5_waysFit 9 = .ok (.iload_n 1, 1) := by decide +kernel
theorem dX5_waysFit_10 : decode cX5_waysFit 10 = .ok (.ishl, 1) := by decide +kernel
theorem dX5_waysFit_11 : decode cX5_waysFit 11 = .ok (.iconst 1, 1) := by decide +kernel
theorem dX5_waysFit_12 : decode cX5_waysFit 12 = .ok (.iload_n 1, 1) := by decide +kernel
theorem dX5_waysFit_13 : decode cX5_waysFit 13 = .ok (.iconst 1, 1) := by decide +kernel
theorem dX5_waysFit_14 : decode cX5_waysFit 14 = .ok (.iadd, 1) := by decide +kernel
theorem dX5_waysFit_15 : decode cX5_waysFit 15 = .ok (.bipush 8, 2) := by decide +kernel
theorem dX5_waysFit_17 : decode cX5_waysFit 17 = .ok (.irem, 1) := by decide +kernel
theorem dX5_waysFit_18 : decode cX5_waysFit 18 = .ok (.ishl, 1) := by decide +kernel
theorem dX5_waysFit_19 : decode cX5_waysFit 19 = .ok (.ior, 1) := by decide +kernel
theorem dX5_waysFit_20 : decode cX5_waysFit 20 = .ok (.istore_n 2, 1) := by decide +kernel
theorem dX5_waysFit_21 : decode cX5_waysFit 21 = .ok (.aload_n 0, 1) := by decide +kernel
theorem dX5_waysFit_22 : decode cX5_waysFit 22 = .ok (.getfield 36, 3) := by decide +kernel
theorem dX5_waysFit_25 : decode cX5_waysFit 25 = .ok (.iload_n 2, 1) := by decide +kernel
theorem dX5_waysFit_26 : decode cX5_waysFit 26 = .ok (.iconst (-1), 1) := by decide +kernel
theorem dX5_waysFit_27 : decode cX5_waysFit 27 = .ok (.ixor, 1) := by decide +kernel
theorem dX5_waysFit_28 : decode cX5_waysFit 28 = .ok (.iand, 1) := by decide +kernel
theorem dX5_waysFit_29 : decode cX5_waysFit 29 = .ok (.ifCond .ne 5, 3) := by decide +kernel
theorem dX5_waysFit_32 : decode cX5_waysFit 32 = .ok (.iconst 1, 1) := by decide +kernel
theorem dX5_waysFit_33 : decode cX5_waysFit 33 = .ok (.ireturn, 1) := by decide +kernel
theorem dX5_waysFit_34 : decode cX5_waysFit 34 = .ok (.iinc 1 1, 3) := by decide +kernel
theorem dX5_waysFit_37 : decode cX5_waysFit 37 = .ok (.goto (-35), 3) := by decide +kernel
theorem dX5_waysFit_40 : decode cX5_waysFit 40 = .ok (.iconst 0, 1) := by decide +kernel
theorem dX5_waysFit_41 : decode cX5_waysFit 41 = .ok (.ireturn, 1) := by decide +kernel
set_option maxRecDepth 20000 in
theorem ggX5_isStraight_X5_waysFit : GoodIn wsX5_isStraight wsX5_waysFit := goodIn_r _ [9, 10, 11, 12, 13, 14, 15, 16, 17] rfl (by decide +kernel)
set_option maxRecDepth 20000 in
theorem gX5_isStraight_X5_waysFit : GoodIn wsX5_isStraight (wsV RX5 52 RX5 yX5_waysFit wsX5_waysFit) := goodIn_app (goodIn_of _ (by decide +kernel)) ggX5_isStraight_X5_waysFit
theorem dX5_isStraight_0 : decode cX5_isStraight 0 = .ok (.aload_n 0, 1) := by decide +kernel
theorem dX5_isStraight_1 : decode cX5_isStraight 1 = .ok (.getfield 40, 3) := by decide +kernel
theorem dX5_isStraight_4 : decode cX5_isStraight 4 = .ok (.aload_n 0, 1) := by decide +kernel
theorem dX5_isStraight_5 : decode cX5_isStraight 5 = .ok (.getfield 43, 3) := by decide +kernel
theorem dX5_isStraight_8 : decode cX5_isStraight 8 = .ok (.imul, 1) := by decide +kernel
theorem dX5_isStraight_9 : decode cX5_isStraight 9 = .ok (.aload_n 0, 1) := by decide +kernel
theorem dX5_isStraight_10 : decode cX5_isStraight 10 = .ok (.getfield 46, 3) := by decide +kernel
theorem dX5_isStraight_13 : decode cX5_isStraight 13 = .ok (.aload_n 0, 1) := by decide +kernel
theorem dX5_isStraight_14 : decode cX5_isStraight 14 = .ok (.getfield 49, 3) := by decide +kernel
theorem dX5_isStraight_17 : decode cX5_isStraight 17 = .ok (.imul, 1) := by decide +kernel
theorem dX5_isStraight_18 : decode cX5_isStraight 18 = .ok (.if_icmp .ge 14, 3) := by decide +kernel
theorem dX5_isStraight_21 : decode cX5_isStraight 21 = .ok (.aload_n 0, 1) := by decide +kernel
theorem dX5_isStraight_22 : decode cX5_isStraight 22 = .ok (.invokevirtual 52, 3) := by decide +kernel
theorem dX5_isStraight_25 : decode cX5_isStraight 25 = .ok (.ifCond .eq 7, 3) := by decide +kernel
theorem dX5_isStraight_28 : decode cX5_isStraight 28 = .ok (.iconst 1, 1) := by decide +kernel
theorem dX5_isStraight_29 : decode cX5_isStraight 29 = .ok (.goto 4, 3) := by decide +kernel
theorem dX5_isStraight_32 : decode cX5_isStraight 32 = .ok (.iconst 0, 1) := by decide +kernel
theorem dX5_isStraight_33 : decode cX5_isStraight 33 = .ok (.ireturn, 1) := by decide +kernel
set_option maxRecDepth 20000 in
theorem ggX5_lowEnd_X5_inLeastTerms : GoodIn wsX5_lowEnd wsX5_inLeastTerms := goodIn_r _ [6, 7, 8, 9, 10, 11, 12, 5, 13] rfl (by decide +kernel)
set_option maxRecDepth 20000 in
theorem gX5_lowEnd_X5_inLeastTerms : GoodIn wsX5_lowEnd (va_wsS RX5 55 yX5_inLeastTerms wsX5_inLeastTerms) := goodIn_app (goodIn_of _ (by decide +kernel)) ggX5_lowEnd_X5_inLeastTerms
theorem dX5_lowEnd_0 : decode cX5_lowEnd 0 = .ok (.aload_n 0, 1) := by decide +kernel
theorem dX5_lowEnd_1 : decode cX5_lowEnd 1 = .ok (.getfield 40, 3) := by decide +kernel
theorem dX5_lowEnd_4 : decode cX5_lowEnd 4 = .ok (.aload_n 0, 1) := by decide +kernel
theorem dX5_lowEnd_5 : decode cX5_lowEnd 5 = .ok (.getfield 49, 3) := by decide +kernel
theorem dX5_lowEnd_8 : decode cX5_lowEnd 8 = .ok (.iload_n 1, 1) := by decide +kernel
theorem dX5_lowEnd_9 : decode cX5_lowEnd 9 = .ok (.invokestatic 55, 3) := by decide +kernel
theorem dX5_lowEnd_12 : decode cX5_lowEnd 12 = .ok (.ireturn, 1) := by decide +kernel
set_option maxRecDepth 20000 in
theorem ggX5_highEnd_X5_inLeastTerms : GoodIn wsX5_highEnd wsX5_inLeastTerms := goodIn_r _ [6, 7, 8, 9, 10, 11, 12, 5, 13] rfl (by decide +kernel)
set_option maxRecDepth 20000 in
theorem gX5_highEnd_X5_inLeastTerms : GoodIn wsX5_highEnd (va_wsS RX5 55 yX5_inLeastTerms wsX5_inLeastTerms) := goodIn_app (goodIn_of _ (by decide +kernel)) ggX5_highEnd_X5_inLeastTerms
theorem dX5_highEnd_0 : decode cX5_highEnd 0 = .ok (.aload_n 0, 1) := by decide +kernel
theorem dX5_highEnd_1 : decode cX5_highEnd 1 = .ok (.getfield 46, 3) := by decide +kernel
theorem dX5_highEnd_4 : decode cX5_highEnd 4 = .ok (.aload_n 0, 1) := by decide +kernel
theorem dX5_highEnd_5 : decode cX5_highEnd 5 = .ok (.getfield 43, 3) := by decide +kernel
theorem dX5_highEnd_8 : decode cX5_highEnd 8 = .ok (.iload_n 1, 1) := by decide +kernel
theorem dX5_highEnd_9 : decode cX5_highEnd 9 = .ok (.invokestatic 55, 3) := by decide +kernel
theorem dX5_highEnd_12 : decode cX5_highEnd 12 = .ok (.ireturn, 1) := by decide +kernel
theorem dX5_plainSlope_0 : decode cX5_plainSlope 0 = .ok (.iconst 0, 1) := by decide +kernel
theorem dX5_plainSlope_1 : decode cX5_plainSlope 1 = .ok (.istore_n 2, 1) := by decide +kernel
theorem dX5_plainSlope_2 : decode cX5_plainSlope 2 = .ok (.iconst 1, 1) := by decide +kernel
theorem dX5_plainSlope_3 : decode cX5_plainSlope 3 = .ok (.istore_n 3, 1) := by decide +kernel
theorem dX5_plainSlope_4 : decode cX5_plainSlope 4 = .ok (.iload_n 3, 1) := by decide +kernel
theorem dX5_plainSlope_5 : decode cX5_plainSlope 5 = .ok (.bipush 120, 2) := by decide +kernel
theorem dX5_plainSlope_7 : decode cX5_plainSlope 7 = .ok (.if_icmp .gt 65, 3) := by decide +kernel
theorem dX5_plainSlope_10 : decode cX5_plainSlope 10 = .ok (.iload_n 2, 1) := by decide +kernel
theorem dX5_plainSlope_11 : decode cX5_plainSlope 11 = .ok (.iload_n 3, 1) := by decide +kernel
theorem dX5_plainSlope_12 : decode cX5_plainSlope 12 = .ok (.if_icmp .gt 24, 3) := by decide +kernel
theorem dX5_plainSlope_15 : decode cX5_plainSlope 15 = .ok (.iload_n 2, 1) := by decide +kernel
theorem dX5_plainSlope_16 : decode cX5_plainSlope 16 = .ok (.aload_n 0, 1) := by decide +kernel
theorem dX5_plainSlope_17 : decode cX5_plainSlope 17 = .ok (.getfield 49, 3) := by decide +kernel
theorem dX5_plainSlope_20 : decode cX5_plainSlope 20 = .ok (.imul, 1) := by decide +kernel
theorem dX5_plainSlope_21 : decode cX5_plainSlope 21 = .ok (.aload_n 0, 1) := by decide +kernel
theorem dX5_plainSlope_22 : decode cX5_plainSlope 22 = .ok (.getfield 40, 3) := by decide +kernel
theorem dX5_plainSlope_25 : decode cX5_plainSlope 25 = .ok (.iload_n 3, 1) := by decide +kernel
theorem dX5_plainSlope_26 : decode cX5_plainSlope 26 = .ok (.imul, 1) := by decide +kernel
theorem dX5_plainSlope_27 : decode cX5_plainSlope 27 = .ok (.if_icmp .gt 9, 3) := by decide +kernel
theorem dX5_plainSlope_30 : decode cX5_plainSlope 30 = .ok (.iinc 2 1, 3) := by decide +kernel
theorem dX5_plainSlope_33 : decode cX5_plainSlope 33 = .ok (.goto (-23), 3) := by decide +kernel
theorem dX5_plainSlope_36 : decode cX5_plainSlope 36 = .ok (.iload_n 2, 1) := by decide +kernel
theorem dX5_plainSlope_37 : decode cX5_plainSlope 37 = .ok (.iload_n 3, 1) := by decide +kernel
theorem dX5_plainSlope_38 : decode cX5_plainSlope 38 = .ok (.if_icmp .gt 28, 3) := by decide +kernel
theorem dX5_plainSlope_41 : decode cX5_plainSlope 41 = .ok (.iload_n 2, 1) := by decide +kernel
theorem dX5_plainSlope_42 : decode cX5_plainSlope 42 = .ok (.aload_n 0, 1) := by decide +kernel
theorem dX5_plainSlope_43 : decode cX5_plainSlope 43 = .ok (.getfield 43, 3) := by decide +kernel
theorem dX5_plainSlope_46 : decode cX5_plainSlope 46 = .ok (.imul, 1) := by decide +kernel
theorem dX5_plainSlope_47 : decode cX5_plainSlope 47 = .ok (.aload_n 0, 1) := by decide +kernel
theorem dX5_plainSlope_48 : decode cX5_plainSlope 48 = .ok (.getfield 46, 3) := by decide +kernel
theorem dX5_plainSlope_51 : decode cX5_plainSlope 51 = .ok (.iload_n 3, 1) := by decide +kernel
theorem dX5_plainSlope_52 : decode cX5_plainSlope 52 = .ok (.imul, 1) := by decide +kernel
theorem dX5_plainSlope_53 : decode cX5_plainSlope 53 = .ok (.if_icmp .ge 13, 3) := by decide +kernel
theorem dX5_plainSlope_56 : decode cX5_plainSlope 56 = .ok (.iload_n 1, 1) := by decide +kernel
theorem dX5_plainSlope_57 : decode cX5_plainSlope 57 = .ok (.ifCond .eq 7, 3) := by decide +kernel
theorem dX5_plainSlope_60 : decode cX5_plainSlope 60 = .ok (.iload_n 2, 1) := by decide +kernel
theorem dX5_plainSlope_61 : decode cX5_plainSlope 61 = .ok (.goto 4, 3) := by decide +kernel
theorem dX5_plainSlope_64 : decode cX5_plainSlope 64 = .ok (.iload_n 3, 1) := by decide +kernel
theorem dX5_plainSlope_65 : decode cX5_plainSlope 65 = .ok (.ireturn, 1) := by decide +kernel
theorem dX5_plainSlope_66 : decode cX5_plainSlope 66 = .ok (.iinc 3 1, 3) := by decide +kernel
theorem dX5_plainSlope_69 : decode cX5_plainSlope 69 = .ok (.goto (-65), 3) := by decide +kernel
theorem dX5_plainSlope_72 : decode cX5_plainSlope 72 = .ok (.sipush (-1003), 3) := by decide +kernel
theorem dX5_plainSlope_75 : decode cX5_plainSlope 75 = .ok (.ireturn, 1) := by decide +kernel
theorem dX5_begin_0 : decode cX5_begin 0 = .ok (.aload_n 0, 1) := by decide +kernel
theorem dX5_begin_1 : decode cX5_begin 1 = .ok (.iconst 0, 1) := by decide +kernel
theorem dX5_begin_2 : decode cX5_begin 2 = .ok (.putfield 59, 3) := by decide +kernel
theorem dX5_begin_5 : decode cX5_begin 5 = .ok (.aload_n 0, 1) := by decide +kernel
theorem dX5_begin_6 : decode cX5_begin 6 = .ok (.iconst 0, 1) := by decide +kernel
theorem dX5_begin_7 : decode cX5_begin 7 = .ok (.putfield 36, 3) := by decide +kernel
theorem dX5_begin_10 : decode cX5_begin 10 = .ok (.aload_n 0, 1) := by decide +kernel
theorem dX5_begin_11 : decode cX5_begin 11 = .ok (.iconst (-1), 1) := by decide +kernel
theorem dX5_begin_12 : decode cX5_begin 12 = .ok (.putfield 40, 3) := by decide +kernel
theorem dX5_begin_15 : decode cX5_begin 15 = .ok (.aload_n 0, 1) := by decide +kernel
theorem dX5_begin_16 : decode cX5_begin 16 = .ok (.iconst 1, 1) := by decide +kernel
theorem dX5_begin_17 : decode cX5_begin 17 = .ok (.putfield 49, 3) := by decide +kernel
theorem dX5_begin_20 : decode cX5_begin 20 = .ok (.aload_n 0, 1) := by decide +kernel
theorem dX5_begin_21 : decode cX5_begin 21 = .ok (.iconst 2, 1) := by decide +kernel
theorem dX5_begin_22 : decode cX5_begin 22 = .ok (.putfield 46, 3) := by decide +kernel
theorem dX5_begin_25 : decode cX5_begin 25 = .ok (.aload_n 0, 1) := by decide +kernel
theorem dX5_begin_26 : decode cX5_begin 26 = .ok (.iconst 1, 1) := by decide +kernel
theorem dX5_begin_27 : decode cX5_begin 27 = .ok (.putfield 43, 3) := by decide +kernel
theorem dX5_begin_30 : decode cX5_begin 30 = .ok (.return_, 1) := by decide +kernel
set_option maxRecDepth 20000 in
theorem ggX5_grow_X5_narrow : GoodIn wsX5_grow wsX5_narrow := goodIn_r _ [8, 9, 10, 11, 12, 13, 14, 15, 16, 17, 18, 19] rfl (by decide +kernel)
set_option maxRecDepth 20000 in
theorem gX5_grow_X5_narrow : GoodIn wsX5_grow (wsV RX5 62 RX5 yX5_narrow wsX5_narrow) := goodIn_app (goodIn_of _ (by decide +kernel)) ggX5_grow_X5_narrow
theorem dX5_grow_0 : decode cX5_grow 0 = .ok (.aload_n 0, 1) := by decide +kernel
theorem dX5_grow_1 : decode cX5_grow 1 = .ok (.getfield 59, 3) := by decide +kernel
theorem dX5_grow_4 : decode cX5_grow 4 = .ok (.bipush 60, 2) := by decide +kernel
theorem dX5_grow_6 : decode cX5_grow 6 = .ok (.if_icmp .ge 13, 3) := by decide +kernel
theorem dX5_grow_9 : decode cX5_grow 9 = .ok (.iload_n 1, 1) := by decide +kernel
theorem dX5_grow_10 : decode cX5_grow 10 = .ok (.ifCond .lt 9, 3) := by decide +kernel
theorem dX5_grow_13 : decode cX5_grow 13 = .ok (.iload_n 1, 1) := by decide +kernel
theorem dX5_grow_14 : decode cX5_grow 14 = .ok (.bipush 8, 2) := by decide +kernel
theorem dX5_grow_16 : decode cX5_grow 16 = .ok (.if_icmp .lt 4, 3) := by decide +kernel
theorem dX5_grow_19 : decode cX5_grow 19 = .ok (.return_, 1) := by decide +kernel
theorem dX5_grow_20 : decode cX5_grow 20 = .ok (.aload_n 0, 1) := by decide +kernel
theorem dX5_grow_21 : decode cX5_grow 21 = .ok (.dup, 1) := by decide +kernel
theorem dX5_grow_22 : decode cX5_grow 22 = .ok (.getfield 36, 3) := by decide +kernel
theorem dX5_grow_25 : decode cX5_grow 25 = .ok (.iconst 1, 1) := by decide +kernel
theorem dX5_grow_26 : decode cX5_grow 26 = .ok (.iload_n 1, 1) := by decide +kernel
theorem dX5_grow_27 : decode cX5_grow 27 = .ok (.ishl, 1) := by decide +kernel
theorem dX5_grow_28 : decode cX5_grow 28 = .ok (.ior, 1) := by decide +kernel
theorem dX5_grow_29 : decode cX5_grow 29 = .ok (.putfield 36, 3) := by decide +kernel
theorem dX5_grow_32 : decode cX5_grow 32 = .ok (.aload_n 0, 1) := by decide +kernel
theorem dX5_grow_33 : decode cX5_grow 33 = .ok (.getfield 9, 3) := by decide +kernel
theorem dX5_grow_36 : decode cX5_grow 36 = .ok (.aload_n 0, 1) := by decide +kernel
theorem dX5_grow_37 : decode cX5_grow 37 = .ok (.getfield 59, 3) := by decide +kernel
theorem dX5_grow_40 : decode cX5_grow 40 = .ok (.iconst 1, 1) := by decide +kernel
theorem dX5_grow_41 : decode cX5_grow 41 = .ok (.iadd, 1) := by decide +kernel
theorem dX5_grow_42 : decode cX5_grow 42 = .ok (.aload_n 0, 1) := by decide +kernel
theorem dX5_grow_43 : decode cX5_grow 43 = .ok (.getfield 9, 3) := by decide +kernel
theorem dX5_grow_46 : decode cX5_grow 46 = .ok (.aload_n 0, 1) := by decide +kernel
theorem dX5_grow_47 : decode cX5_grow 47 = .ok (.getfield 59, 3) := by decide +kernel
theorem dX5_grow_50 : decode cX5_grow 50 = .ok (.iaload, 1) := by decide +kernel
theorem dX5_grow_51 : decode cX5_grow 51 = .ok (.iload_n 1, 1) := by decide +kernel
theorem dX5_grow_52 : decode cX5_grow 52 = .ok (.iconst 2, 1) := by decide +kernel
theorem dX5_grow_53 : decode cX5_grow 53 = .ok (.irem, 1) := by decide +kernel
theorem dX5_grow_54 : decode cX5_grow 54 = .ok (.iadd, 1) := by decide +kernel
theorem dX5_grow_55 : decode cX5_grow 55 = .ok (.iastore, 1) := by decide +kernel
theorem dX5_grow_56 : decode cX5_grow 56 = .ok (.aload_n 0, 1) := by decide +kernel
theorem dX5_grow_57 : decode cX5_grow 57 = .ok (.dup, 1) := by decide +kernel
theorem dX5_grow_58 : decode cX5_grow 58 = .ok (.getfield 59, 3) := by decide +kernel
theorem dX5_grow_61 : decode cX5_grow 61 = .ok (.iconst 1, 1) := by decide +kernel
theorem dX5_grow_62 : decode cX5_grow 62 = .ok (.iadd, 1) := by decide +kernel
theorem dX5_grow_63 : decode cX5_grow 63 = .ok (.putfield 59, 3) := by decide +kernel
theorem dX5_grow_66 : decode cX5_grow 66 = .ok (.iconst 0, 1) := by decide +kernel
theorem dX5_grow_67 : decode cX5_grow 67 = .ok (.istore_n 2, 1) := by decide +kernel
theorem dX5_grow_68 : decode cX5_grow 68 = .ok (.iload_n 2, 1) := by decide +kernel
theorem dX5_grow_69 : decode cX5_grow 69 = .ok (.aload_n 0, 1) := by decide +kernel
theorem dX5_grow_70 : decode cX5_grow 70 = .ok (.getfield 59, 3) := by decide +kernel
theorem dX5_grow_73 : decode cX5_grow 73 = .ok (.if_icmp .ge 35, 3) := by decide +kernel
theorem dX5_grow_76 : decode cX5_grow 76 = .ok (.aload_n 0, 1) := by decide +kernel
theorem dX5_grow_77 : decode cX5_grow 77 = .ok (.aload_n 0, 1) := by decide +kernel
theorem dX5_grow_78 : decode cX5_grow 78 = .ok (.getfield 9, 3) := by decide +kernel
theorem dX5_grow_81 : decode cX5_grow 81 = .ok (.aload_n 0, 1) := by decide +kernel
theorem dX5_grow_82 : decode cX5_grow 82 = .ok (.getfield 59, 3) := by decide +kernel
theorem dX5_grow_85 : decode cX5_grow 85 = .ok (.iaload, 1) := by decide +kernel
theorem dX5_grow_86 : decode cX5_grow 86 = .ok (.aload_n 0, 1) := by decide +kernel
theorem dX5_grow_87 : decode cX5_grow 87 = .ok (.getfield 9, 3) := by decide +kernel
theorem dX5_grow_90 : decode cX5_grow 90 = .ok (.iload_n 2, 1) := by decide +kernel
theorem dX5_grow_91 : decode cX5_grow 91 = .ok (.iaload, 1) := by decide +kernel
theorem dX5_grow_92 : decode cX5_grow 92 = .ok (.isub, 1) := by decide +kernel
theorem dX5_grow_93 : decode cX5_grow 93 = .ok (.aload_n 0, 1) := by decide +kernel
theorem dX5_grow_94 : decode cX5_grow 94 = .ok (.getfield 59, 3) := by decide +kernel
theorem dX5_grow_97 : decode cX5_grow 97 = .ok (.iload_n 2, 1) := by decide +kernel
theorem dX5_grow_98 : decode cX5_grow 98 = .ok (.isub, 1) := by decide +kernel
theorem dX5_grow_99 : decode cX5_grow 99 = .ok (.invokevirtual 62, 3) := by decide +kernel
theorem dX5_grow_102 : decode cX5_grow 102 = .ok (.iinc 2 1, 3) := by decide +kernel
theorem dX5_grow_105 : decode cX5_grow 105 = .ok (.goto (-37), 3) := by decide +kernel
theorem dX5_grow_108 : decode cX5_grow 108 = .ok (.return_, 1) := by decide +kernel
theorem dX5_narrow_0 : decode cX5_narrow 0 = .ok (.iload_n 1, 1) := by decide +kernel
theorem dX5_narrow_1 : decode cX5_narrow 1 = .ok (.iconst 1, 1) := by decide +kernel
theorem dX5_narrow_2 : decode cX5_narrow 2 = .ok (.isub, 1) := by decide +kernel
theorem dX5_narrow_3 : decode cX5_narrow 3 = .ok (.aload_n 0, 1) := by decide +kernel
theorem dX5_narrow_4 : decode cX5_narrow 4 = .ok (.getfield 49, 3) := by decide +kernel
theorem dX5_narrow_7 : decode cX5_narrow 7 = .ok (.imul, 1) := by decide +kernel
theorem dX5_narrow_8 : decode cX5_narrow 8 = .ok (.aload_n 0, 1) := by decide +kernel
theorem dX5_narrow_9 : decode cX5_narrow 9 = .ok (.getfield 40, 3) := by decide +kernel
theorem dX5_narrow_12 : decode cX5_narrow 12 = .ok (.iload_n 2, 1) := by decide +kernel
theorem dX5_narrow_13 : decode cX5_narrow 13 = .ok (.imul, 1) := by decide +kernel
theorem dX5_narrow_14 : decode cX5_narrow 14 = .ok (.if_icmp .le 15, 3) := by decide +kernel
theorem dX5_narrow_17 : decode cX5_narrow 17 = .ok (.aload_n 0, 1) := by decide +kernel
theorem dX5_narrow_18 : decode cX5_narrow 18 = .ok (.iload_n 1, 1) := by decide +kernel
theorem dX5_narrow_19 : decode cX5_narrow 19 = .ok (.iconst 1, 1) := by decide +kernel
theorem dX5_narrow_20 : decode cX5_narrow 20 = .ok (.isub, 1) := by decide +kernel
theorem dX5_narrow_21 : decode cX5_narrow 21 = .ok (.putfield 40, 3) := by decide +kernel
theorem dX5_narrow_24 : decode cX5_narrow 24 = .ok (.aload_n 0, 1) := by decide +kernel
theorem dX5_narrow_25 : decode cX5_narrow 25 = .ok (.iload_n 2, 1) := by decide +kernel
theorem dX5_narrow_26 : decode cX5_narrow 26 = .ok (.putfield 49, 3) := by decide +kernel
theorem dX5_narrow_29 : decode cX5_narrow 29 = .ok (.iload_n 1, 1) := by decide +kernel
theorem dX5_narrow_30 : decode cX5_narrow 30 = .ok (.iconst 1, 1) := by decide +kernel
theorem dX5_narrow_31 : decode cX5_narrow 31 = .ok (.iadd, 1) := by decide +kernel
theorem dX5_narrow_32 : decode cX5_narrow 32 = .ok (.aload_n 0, 1) := by decide +kernel
theorem dX5_narrow_33 : decode cX5_narrow 33 = .ok (.getfield 43, 3) := by decide +kernel
theorem dX5_narrow_36 : decode cX5_narrow 36 = .ok (.imul, 1) := by decide +kernel
theorem dX5_narrow_37 : decode cX5_narrow 37 = .ok (.aload_n 0, 1) := by decide +kernel
theorem dX5_narrow_38 : decode cX5_narrow 38 = .ok (.getfield 46, 3) := by decide +kernel
theorem dX5_narrow_41 : decode cX5_narrow 41 = .ok (.iload_n 2, 1) := by decide +kernel
theorem dX5_narrow_42 : decode cX5_narrow 42 = .ok (.imul, 1) := by decide +kernel
theorem dX5_narrow_43 : decode cX5_narrow 43 = .ok (.if_icmp .ge 15, 3) := by decide +kernel
theorem dX5_narrow_46 : decode cX5_narrow 46 = .ok (.aload_n 0, 1) := by decide +kernel
theorem dX5_narrow_47 : decode cX5_narrow 47 = .ok (.iload_n 1, 1) := by decide +kernel
theorem dX5_narrow_48 : decode cX5_narrow 48 = .ok (.iconst 1, 1) := by decide +kernel
theorem dX5_narrow_49 : decode cX5_narrow 49 = .ok (.iadd, 1) := by decide +kernel
theorem dX5_narrow_50 : decode cX5_narrow 50 = .ok (.putfield 46, 3) := by decide +kernel
theorem dX5_narrow_53 : decode cX5_narrow 53 = .ok (.aload_n 0, 1) := by decide +kernel
theorem dX5_narrow_54 : decode cX5_narrow 54 = .ok (.iload_n 2, 1) := by decide +kernel
theorem dX5_narrow_55 : decode cX5_narrow 55 = .ok (.putfield 43, 3) := by decide +kernel
theorem dX5_narrow_58 : decode cX5_narrow 58 = .ok (.return_, 1) := by decide +kernel
set_option maxRecDepth 20000 in
theorem ggX5_inLeastTerms_X5_commonDivisor : GoodIn wsX5_inLeastTerms wsX5_commonDivisor := goodIn_r _ [8] rfl (by decide +kernel)
set_option maxRecDepth 20000 in
theorem gX5_inLeastTerms_X5_commonDivisor : GoodIn wsX5_inLeastTerms (va_wsS RX5 71 yX5_commonDivisor wsX5_commonDivisor) := goodIn_app (goodIn_of _ (by decide +kernel)) ggX5_inLeastTerms_X5_commonDivisor
theorem dX5_inLeastTerms_0 : decode cX5_inLeastTerms 0 = .ok (.iload_n 0, 1) := by decide +kernel
theorem dX5_inLeastTerms_1 : decode cX5_inLeastTerms 1 = .ok (.invokestatic 66, 3) := by decide +kernel
theorem dX5_inLeastTerms_4 : decode cX5_inLeastTerms 4 = .ok (.iload_n 1, 1) := by decide +kernel
theorem dX5_inLeastTerms_5 : decode cX5_inLeastTerms 5 = .ok (.invokestatic 71, 3) := by decide +kernel
theorem dX5_inLeastTerms_8 : decode cX5_inLeastTerms 8 = .ok (.istore_n 3, 1) := by decide +kernel
theorem dX5_inLeastTerms_9 : decode cX5_inLeastTerms 9 = .ok (.iload_n 3, 1) := by decide +kernel
theorem dX5_inLeastTerms_10 : decode cX5_inLeastTerms 10 = .ok (.ifCond .gt 7, 3) := by decide +kernel
theorem dX5_inLeastTerms_13 : decode cX5_inLeastTerms 13 = .ok (.sipush (-1003), 3) := by decide +kernel
theorem dX5_inLeastTerms_16 : decode cX5_inLeastTerms 16 = .ok (.ireturn, 1) := by decide +kernel
theorem dX5_inLeastTerms_17 : decode cX5_inLeastTerms 17 = .ok (.iload_n 2, 1) := by decide +kernel
theorem dX5_inLeastTerms_18 : decode cX5_inLeastTerms 18 = .ok (.ifCond .eq 9, 3) := by decide +kernel
theorem dX5_inLeastTerms_21 : decode cX5_inLeastTerms 21 = .ok (.iload_n 0, 1) := by decide +kernel
theorem dX5_inLeastTerms_22 : decode cX5_inLeastTerms 22 = .ok (.iload_n 3, 1) := by decide +kernel
theorem dX5_inLeastTerms_23 : decode cX5_inLeastTerms 23 = .ok (.idiv, 1) := by decide +kernel
theorem dX5_inLeastTerms_24 : decode cX5_inLeastTerms 24 = .ok (.goto 6, 3) := by decide +kernel
theorem dX5_inLeastTerms_27 : decode cX5_inLeastTerms 27 = .ok (.iload_n 1, 1) := by decide +kernel
theorem dX5_inLeastTerms_28 : decode cX5_inLeastTerms 28 = .ok (.iload_n 3, 1) := by decide +kernel
theorem dX5_inLeastTerms_29 : decode cX5_inLeastTerms 29 = .ok (.idiv, 1) := by decide +kernel
theorem dX5_inLeastTerms_30 : decode cX5_inLeastTerms 30 = .ok (.ireturn, 1) := by decide +kernel
theorem dX5_commonDivisor_0 : decode cX5_commonDivisor 0 = .ok (.iload_n 0, 1) := by decide +kernel
theorem dX5_commonDivisor_1 : decode cX5_commonDivisor 1 = .ok (.istore_n 2, 1) := by decide +kernel
theorem dX5_commonDivisor_2 : decode cX5_commonDivisor 2 = .ok (.iload_n 1, 1) := by decide +kernel
theorem dX5_commonDivisor_3 : decode cX5_commonDivisor 3 = .ok (.istore_n 3, 1) := by decide +kernel
theorem dX5_commonDivisor_4 : decode cX5_commonDivisor 4 = .ok (.iconst 0, 1) := by decide +kernel
theorem dX5_commonDivisor_5 : decode cX5_commonDivisor 5 = .ok (.istore 4, 2) := by decide +kernel
theorem dX5_commonDivisor_7 : decode cX5_commonDivisor 7 = .ok (.iload 4, 2) := by decide +kernel
theorem dX5_commonDivisor_9 : decode cX5_commonDivisor 9 = .ok (.bipush 120, 2) := by decide +kernel
theorem dX5_commonDivisor_11 : decode cX5_commonDivisor 11 = .ok (.if_icmp .ge 23, 3) := by decide +kernel
theorem dX5_commonDivisor_14 : decode cX5_commonDivisor 14 = .ok (.iload_n 3, 1) := by decide +kernel
theorem dX5_commonDivisor_15 : decode cX5_commonDivisor 15 = .ok (.ifCond .eq 19, 3) := by decide +kernel
theorem dX5_commonDivisor_18 : decode cX5_commonDivisor 18 = .ok (.iload_n 2, 1) := by decide +kernel
theorem dX5_commonDivisor_19 : decode cX5_commonDivisor 19 = .ok (.iload_n 3, 1) := by decide +kernel
theorem dX5_commonDivisor_20 : decode cX5_commonDivisor 20 = .ok (.irem, 1) := by decide +kernel
theorem dX5_commonDivisor_21 : decode cX5_commonDivisor 21 = .ok (.istore 5, 2) := by decide +kernel
theorem dX5_commonDivisor_23 : decode cX5_commonDivisor 23 = .ok (.iload_n 3, 1) := by decide +kernel
theorem dX5_commonDivisor_24 : decode cX5_commonDivisor 24 = .ok (.istore_n 2, 1) := by decide +kernel
theorem dX5_commonDivisor_25 : decode cX5_commonDivisor 25 = .ok (.iload 5, 2) := by decide +kernel
theorem dX5_commonDivisor_27 : decode cX5_commonDivisor 27 = .ok (.istore_n 3, 1) := by decide +kernel
theorem dX5_commonDivisor_28 : decode cX5_commonDivisor 28 = .ok (.iinc 4 1, 3) := by decide +kernel
theorem dX5_commonDivisor_31 : decode cX5_commonDivisor 31 = .ok (.goto (-24), 3) := by decide +kernel
theorem dX5_commonDivisor_34 : decode cX5_commonDivisor 34 = .ok (.iload_n 2, 1) := by decide +kernel
theorem dX5_commonDivisor_35 : decode cX5_commonDivisor 35 = .ok (.ireturn, 1) := by decide +kernel
theorem dX6_init_0 : decode cX6_init 0 = .ok (.aload_n 0, 1) := by decide +kernel
theorem dX6_init_1 : decode cX6_init 1 = .ok (.invokespecial 3, 3) := by decide +kernel
theorem dX6_init_4 : decode cX6_init 4 = .ok (.aload_n 0, 1) := by decide +kernel
theorem dX6_init_5 : decode cX6_init 5 = .ok (.bipush 60, 2) := by decide +kernel
theorem dX6_init_7 : decode cX6_init 7 = .ok (.newarray .int, 2) := by decide +kernel
theorem dX6_init_9 : decode cX6_init 9 = .ok (.putfield 9, 3) := by decide +kernel
theorem dX6_init_12 : decode cX6_init 12 = .ok (.aload_n 0, 1) := by decide +kernel
theorem dX6_init_13 : decode cX6_init 13 = .ok (.bipush 61, 2) := by decide +kernel
theorem dX6_init_15 : decode cX6_init 15 = .ok (.newarray .int, 2) := by decide +kernel
theorem dX6_init_17 : decode cX6_init 17 = .ok (.putfield 15, 3) := by decide +kernel
theorem dX6_init_20 : decode cX6_init 20 = .ok (.aload_n 0, 1) := by decide +kernel
theorem dX6_init_21 : decode cX6_init 21 = .ok (.bipush 61, 2) := by decide +kernel
theorem dX6_init_23 : decode cX6_init 23 = .ok (.newarray .int, 2) := by decide +kernel
theorem dX6_init_25 : decode cX6_init 25 = .ok (.putfield 18, 3) := by decide +kernel
theorem dX6_init_28 : decode cX6_init 28 = .ok (.return_, 1) := by decide +kernel
theorem dX6_steps_0 : decode cX6_steps 0 = .ok (.aload_n 0, 1) := by decide +kernel
theorem dX6_steps_1 : decode cX6_steps 1 = .ok (.getfield 21, 3) := by decide +kernel
theorem dX6_steps_4 : decode cX6_steps 4 = .ok (.ireturn, 1) := by decide +kernel
theorem dX6_hasStep_0 : decode cX6_hasStep 0 = .ok (.iload_n 1, 1) := by decide +kernel
theorem dX6_hasStep_1 : decode cX6_hasStep 1 = .ok (.ifCond .lt 15, 3) := by decide +kernel
theorem dX6_hasStep_4 : decode cX6_hasStep 4 = .ok (.iload_n 1, 1) := by decide +kernel
theorem dX6_hasStep_5 : decode cX6_hasStep 5 = .ok (.aload_n 0, 1) := by decide +kernel
theorem dX6_hasStep_6 : decode cX6_hasStep 6 = .ok (.getfield 21, 3) := by decide +kernel
theorem dX6_hasStep_9 : decode cX6_hasStep 9 = .ok (.if_icmp .ge 7, 3) := by decide +kernel
theorem dX6_hasStep_12 : decode cX6_hasStep 12 = .ok (.iconst 1, 1) := by decide +kernel
theorem dX6_hasStep_13 : decode cX6_hasStep 13 = .ok (.goto 4, 3) := by decide +kernel
theorem dX6_hasStep_16 : decode cX6_hasStep 16 = .ok (.iconst 0, 1) := by decide +kernel
theorem dX6_hasStep_17 : decode cX6_hasStep 17 = .ok (.ireturn, 1) := by decide +kernel
theorem dX6_hasPlace_0 : decode cX6_hasPlace 0 = .ok (.iload_n 1, 1) := by decide +kernel
theorem dX6_hasPlace_1 : decode cX6_hasPlace 1 = .ok (.ifCond .lt 15, 3) := by decide +kernel
theorem dX6_hasPlace_4 : decode cX6_hasPlace 4 = .ok (.iload_n 1, 1) := by decide +kernel
theorem dX6_hasPlace_5 : decode cX6_hasPlace 5 = .ok (.aload_n 0, 1) := by decide +kernel
theorem dX6_hasPlace_6 : decode cX6_hasPlace 6 = .ok (.getfield 21, 3) := by decide +kernel
theorem dX6_hasPlace_9 : decode cX6_hasPlace 9 = .ok (.if_icmp .gt 7, 3) := by decide +kernel
theorem dX6_hasPlace_12 : decode cX6_hasPlace 12 = .ok (.iconst 1, 1) := by decide +kernel
theorem dX6_hasPlace_13 : decode cX6_hasPlace 13 = .ok (.goto 4, 3) := by decide +kernel
theorem dX6_hasPlace_16 : decode cX6_hasPlace 16 = .ok (.iconst 0, 1) := by decide +kernel
theorem dX6_hasPlace_17 : decode cX6_hasPlace 17 = .ok (.ireturn, 1) := by decide +kernel
set_option maxRecDepth 20000 in
theorem ggX6_wayOf_X6_hasStep : GoodIn wsX6_wayOf wsX6_hasStep := goodIn_r _ [6, 7, 8, 9, 10, 11] rfl (by decide +kernel)
set_option maxRecDepth 20000 in
theorem gX6_wayOf_X6_hasStep : GoodIn wsX6_wayOf (wsV RX6 25 RX6 yX6_hasStep wsX6_hasStep) := goodIn_app (goodIn_of _ (by decide +kernel)) ggX6_wayOf_X6_hasStep
theorem dX6_wayOf_0 : decode cX6_wayOf 0 = .ok (.aload_n 0, 1) := by decide +kernel
theorem dX6_wayOf_1 : decode cX6_wayOf 1 = .ok (.iload_n 1, 1) := by decide +kernel
theorem dX6_wayOf_2 : decode cX6_wayOf 2 = .ok (.invokevirtual 25, 3) := by decide +kernel
theorem dX6_wayOf_5 : decode cX6_wayOf 5 = .ok (.ifCond .eq 12, 3) := by decide +kernel
theorem dX6_wayOf_8 : decode cX6_wayOf 8 = .ok (.aload_n 0, 1) := by decide +kernel
theorem dX6_wayOf_9 : decode cX6_wayOf 9 = .ok (.getfield 9, 3) := by decide +kernel
theorem dX6_wayOf_12 : decode cX6_wayOf 12 = .ok (.iload_n 1, 1) := by decide +kernel
theorem dX6_wayOf_13 : decode cX6_wayOf 13 = .ok (.iaload, 1) := by decide +kernel
theorem dX6_wayOf_14 : decode cX6_wayOf 14 = .ok (.goto 4, 3) := by decide +kernel
theorem dX6_wayOf_17 : decode cX6_wayOf 17 = .ok (.iconst 0, 1) := by decide +kernel
theorem dX6_wayOf_18 : decode cX6_wayOf 18 = .ok (.ireturn, 1) := by decide +kernel
set_option maxRecDepth 20000 in
theorem ggX6_xOf_X6_hasPlace : GoodIn wsX6_xOf wsX6_hasPlace := goodIn_r _ [6, 7, 8, 9, 10, 11] rfl (by decide +kernel)
set_option maxRecDepth 20000 in
theorem gX6_xOf_X6_hasPlace : GoodIn wsX6_xOf (wsV RX6 29 RX6 yX6_hasPlace wsX6_hasPlace) := goodIn_app (goodIn_of _ (by decide +kernel)) ggX6_xOf_X6_hasPlace
theorem dX6_xOf_0 : decode cX6_xOf 0 = .ok (.aload_n 0, 1) := by decide +kernel
theorem dX6_xOf_1 : decode cX6_xOf 1 = .ok (.iload_n 1, 1) := by decide +kernel
theorem dX6_xOf_2 : decode cX6_xOf 2 = .ok (.invokevirtual 29, 3) := by decide +kernel
theorem dX6_xOf_5 : decode cX6_xOf 5 = .ok (.ifCond .eq 12, 3) := by decide +kernel
theorem dX6_xOf_8 : decode cX6_xOf 8 = .ok (.aload_n 0, 1) := by decide +kernel
theorem dX6_xOf_9 : decode cX6_xOf 9 = .ok (.getfield 15, 3) := by decide +kernel
theorem dX6_xOf_12 : decode cX6_xOf 12 = .ok (.iload_n 1, 1) := by decide +kernel
theorem dX6_xOf_13 : decode cX6_xOf 13 = .ok (.iaload, 1) := by decide +kernel
theorem dX6_xOf_14 : decode cX6_xOf 14 = .ok (.goto 4, 3) := by decide +kernel
theorem dX6_xOf_17 : decode cX6_xOf 17 = .ok (.iconst 0, 1) := by decide +kernel
theorem dX6_xOf_18 : decode cX6_xOf 18 = .ok (.ireturn, 1) := by decide +kernel
set_option maxRecDepth 20000 in
theorem ggX6_yOf_X6_hasPlace : GoodIn wsX6_yOf wsX6_hasPlace := goodIn_r _ [6, 7, 8, 9, 10, 11] rfl (by decide +kernel)
set_option maxRecDepth 20000 in
theorem gX6_yOf_X6_hasPlace : GoodIn wsX6_yOf (wsV RX6 29 RX6 yX6_hasPlace wsX6_hasPlace) := goodIn_app (goodIn_of _ (by decide +kernel)) ggX6_yOf_X6_hasPlace
theorem dX6_yOf_0 : decode cX6_yOf 0 = .ok (.aload_n 0, 1) := by decide +kernel
theorem dX6_yOf_1 : decode cX6_yOf 1 = .ok (.iload_n 1, 1) := by decide +kernel
theorem dX6_yOf_2 : decode cX6_yOf 2 = .ok (.invokevirtual 29, 3) := by decide +kernel
theorem dX6_yOf_5 : decode cX6_yOf 5 = .ok (.ifCond .eq 12, 3) := by decide +kernel
theorem dX6_yOf_8 : decode cX6_yOf 8 = .ok (.aload_n 0, 1) := by decide +kernel
theorem dX6_yOf_9 : decode cX6_yOf 9 = .ok (.getfield 18, 3) := by decide +kernel
theorem dX6_yOf_12 : decode cX6_yOf 12 = .ok (.iload_n 1, 1) := by decide +kernel
theorem dX6_yOf_13 : decode cX6_yOf 13 = .ok (.iaload, 1) := by decide +kernel
theorem dX6_yOf_14 : decode cX6_yOf 14 = .ok (.goto 4, 3) := by decide +kernel
theorem dX6_yOf_17 : decode cX6_yOf 17 = .ok (.iconst 0, 1) := by decide +kernel
theorem dX6_yOf_18 : decode cX6_yOf 18 = .ok (.ireturn, 1) := by decide +kernel
theorem dX6_append_0 : decode cX6_append 0 = .ok (.aload_n 0, 1) := by decide +kernel
theorem dX6_append_1 : decode cX6_append 1 = .ok (.getfield 21, 3) := by decide +kernel
theorem dX6_append_4 : decode cX6_append 4 = .ok (.bipush 60, 2) := by decide +kernel
theorem dX6_append_6 : decode cX6_append 6 = .ok (.if_icmp .ge 13, 3) := by decide +kernel
theorem dX6_append_9 : decode cX6_append 9 = .ok (.iload_n 1, 1) := by decide +kernel
theorem dX6_append_10 : decode cX6_append 10 = .ok (.ifCond .lt 9, 3) := by decide +kernel
theorem dX6_append_13 : decode cX6_append 13 = .ok (.iload_n 1, 1) := by decide +kernel
theorem dX6_append_14 : decode cX6_append 14 = .ok (.bipush 8, 2) := by decide +kernel
theorem dX6_append_16 : decode cX6_append 16 = .ok (.if_icmp .lt 4, 3) := by decide +kernel
theorem dX6_append_19 : decode cX6_append 19 = .ok (.return_, 1) := by decide +kernel
theorem dX6_append_20 : decode cX6_append 20 = .ok (.aload_n 0, 1) := by decide +kernel
theorem dX6_append_21 : decode cX6_append 21 = .ok (.getfield 9, 3) := by decide +kernel
theorem dX6_append_24 : decode cX6_append 24 = .ok (.aload_n 0, 1) := by decide +kernel
theorem dX6_append_25 : decode cX6_append 25 = .ok (.getfield 21, 3) := by decide +kernel
theorem dX6_append_28 : decode cX6_append 28 = .ok (.iload_n 1, 1) := by decide +kernel
theorem dX6_append_29 : decode cX6_append 29 = .ok (.iastore, 1) := by decide +kernel
theorem dX6_append_30 : decode cX6_append 30 = .ok (.aload_n 0, 1) := by decide +kernel
theorem dX6_append_31 : decode cX6_append 31 = .ok (.getfield 15, 3) := by decide +kernel
theorem dX6_append_34 : decode cX6_append 34 = .ok (.aload_n 0, 1) := by decide +kernel
theorem dX6_append_35 : decode cX6_append 35 = .ok (.getfield 21, 3) := by decide +kernel
theorem dX6_append_38 : decode cX6_append 38 = .ok (.iconst 1, 1) := by decide +kernel
theorem dX6_append_39 : decode cX6_append 39 = .ok (.iadd, 1) := by decide +kernel
theorem dX6_append_40 : decode cX6_append 40 = .ok (.aload_n 0, 1) := by decide +kernel
theorem dX6_append_41 : decode cX6_append 41 = .ok (.getfield 15, 3) := by decide +kernel
theorem dX6_append_44 : decode cX6_append 44 = .ok (.aload_n 0, 1) := by decide +kernel
theorem dX6_append_45 : decode cX6_append 45 = .ok (.getfield 21, 3) := by decide +kernel
theorem dX6_append_48 : decode cX6_append 48 = .ok (.iaload, 1) := by decide +kernel
theorem dX6_append_49 : decode cX6_append 49 = .ok (.getstatic 32, 3) := by decide +kernel
theorem dX6_append_52 : decode cX6_append 52 = .ok (.iload_n 1, 1) := by decide +kernel
theorem dX6_append_53 : decode cX6_append 53 = .ok (.iaload, 1) := by decide +kernel
theorem dX6_append_54 : decode cX6_append 54 = .ok (.iadd, 1) := by decide +kernel
theorem dX6_append_55 : decode cX6_append 55 = .ok (.iastore, 1) := by decide +kernel
theorem dX6_append_56 : decode cX6_append 56 = .ok (.aload_n 0, 1) := by decide +kernel
theorem dX6_append_57 : decode cX6_append 57 = .ok (.getfield 18, 3) := by decide +kernel
theorem dX6_append_60 : decode cX6_append 60 = .ok (.aload_n 0, 1) := by decide +kernel
theorem dX6_append_61 : decode cX6_append 61 = .ok (.getfield 21, 3) := by decide +kernel
theorem dX6_append_64 : decode cX6_append 64 = .ok (.iconst 1, 1) := by decide +kernel
theorem dX6_append_65 : decode cX6_append 65 = .ok (.iadd, 1) := by decide +kernel
theorem dX6_append_66 : decode cX6_append 66 = .ok (.aload_n 0, 1) := by decide +kernel
theorem dX6_append_67 : decode cX6_append 67 = .ok (.getfield 18, 3) := by decide +kernel
theorem dX6_append_70 : decode cX6_append 70 = .ok (.aload_n 0, 1) := by decide +kernel
theorem dX6_append_71 : decode cX6_append 71 = .ok (.getfield 21, 3) := by decide +kernel
theorem dX6_append_74 : decode cX6_append 74 = .ok (.iaload, 1) := by decide +kernel
theorem dX6_append_75 : decode cX6_append 75 = .ok (.getstatic 35, 3) := by decide +kernel
theorem dX6_append_78 : decode cX6_append 78 = .ok (.iload_n 1, 1) := by decide +kernel
theorem dX6_append_79 : decode cX6_append 79 = .ok (.iaload, 1) := by decide +kernel
theorem dX6_append_80 : decode cX6_append 80 = .ok (.iadd, 1) := by decide +kernel
theorem dX6_append_81 : decode cX6_append 81 = .ok (.iastore, 1) := by decide +kernel
