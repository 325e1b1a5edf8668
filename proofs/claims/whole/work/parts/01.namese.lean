theorem dX10_isDisc_70 : decode cX10_isDisc 70 = .ok (.iload 6, 2) := by decide +kernel
theorem dX10_isDisc_72 : decode cX10_isDisc 72 = .ok (.aload_n 0, 1) := by decide +kernel
theorem dX10_isDisc_73 : decode cX10_isDisc 73 = .ok (.getfield 20, 3) := by decide +kernel
theorem dX10_isDisc_76 : decode cX10_isDisc 76 = .ok (.idiv, 1) := by decide +kernel
theorem dX10_isDisc_77 : decode cX10_isDisc 77 = .ok (.imul, 1) := by decide +kernel
theorem dX10_isDisc_78 : decode cX10_isDisc 78 = .ok (.iload_n 2, 1) := by decide +kernel
theorem dX10_isDisc_79 : decode cX10_isDisc 79 = .ok (.isub, 1) := by decide +kernel
theorem dX10_isDisc_80 : decode cX10_isDisc 80 = .ok (.istore 8, 2) := by decide +kernel
theorem dX10_isDisc_82 : decode cX10_isDisc 82 = .ok (.iload 7, 2) := by decide +kernel
theorem dX10_isDisc_84 : decode cX10_isDisc 84 = .ok (.iload 7, 2) := by decide +kernel
theorem dX10_isDisc_86 : decode cX10_isDisc 86 = .ok (.imul, 1) := by decide +kernel
theorem dX10_isDisc_87 : decode cX10_isDisc 87 = .ok (.iload 8, 2) := by decide +kernel
theorem dX10_isDisc_89 : decode cX10_isDisc 89 = .ok (.iload 8, 2) := by decide +kernel
theorem dX10_isDisc_91 : decode cX10_isDisc 91 = .ok (.imul, 1) := by decide +kernel
theorem dX10_isDisc_92 : decode cX10_isDisc 92 = .ok (.iadd, 1) := by decide +kernel
theorem dX10_isDisc_93 : decode cX10_isDisc 93 = .ok (.istore 9, 2) := by decide +kernel
theorem dX10_isDisc_95 : decode cX10_isDisc 95 = .ok (.aload_n 0, 1) := by decide +kernel
theorem dX10_isDisc_96 : decode cX10_isDisc 96 = .ok (.getfield 27, 3) := by decide +kernel
theorem dX10_isDisc_99 : decode cX10_isDisc 99 = .ok (.iload 6, 2) := by decide +kernel
theorem dX10_isDisc_101 : decode cX10_isDisc 101 = .ok (.baload, 1) := by decide +kernel
theorem dX10_isDisc_102 : decode cX10_isDisc 102 = .ok (.ifCond .eq 15, 3) := by decide +kernel
theorem dX10_isDisc_105 : decode cX10_isDisc 105 = .ok (.iload 9, 2) := by decide +kernel
theorem dX10_isDisc_107 : decode cX10_isDisc 107 = .ok (.iload 4, 2) := by decide +kernel
theorem dX10_isDisc_109 : decode cX10_isDisc 109 = .ok (.if_icmp .le 8, 3) := by decide +kernel
theorem dX10_isDisc_112 : decode cX10_isDisc 112 = .ok (.iload 9, 2) := by decide +kernel
theorem dX10_isDisc_114 : decode cX10_isDisc 114 = .ok (.goto 5, 3) := by decide +kernel
theorem dX10_isDisc_117 : decode cX10_isDisc 117 = .ok (.iload 4, 2) := by decide +kernel
theorem dX10_isDisc_119 : decode cX10_isDisc 119 = .ok (.istore 4, 2) := by decide +kernel
theorem dX10_isDisc_121 : decode cX10_isDisc 121 = .ok (.aload_n 0, 1) := by decide +kernel
theorem dX10_isDisc_122 : decode cX10_isDisc 122 = .ok (.getfield 27, 3) := by decide +kernel
theorem dX10_isDisc_125 : decode cX10_isDisc 125 = .ok (.iload 6, 2) := by decide +kernel
theorem dX10_isDisc_127 : decode cX10_isDisc 127 = .ok (.baload, 1) := by decide +kernel
theorem dX10_isDisc_128 : decode cX10_isDisc 128 = .ok (.ifCond .ne 15, 3) := by decide +kernel
theorem dX10_isDisc_131 : decode cX10_isDisc 131 = .ok (.iload 9, 2) := by decide +kernel
theorem dX10_isDisc_133 : decode cX10_isDisc 133 = .ok (.iload 5, 2) := by decide +kernel
theorem dX10_isDisc_135 : decode cX10_isDisc 135 = .ok (.if_icmp .ge 8, 3) := by decide +kernel
theorem dX10_isDisc_138 : decode cX10_isDisc 138 = .ok (.iload 9, 2) := by decide +kernel
theorem dX10_isDisc_140 : decode cX10_isDisc 140 = .ok (.goto 5, 3) := by decide +kernel
theorem dX10_isDisc_143 : decode cX10_isDisc 143 = .ok (.iload 5, 2) := by decide +kernel
theorem dX10_isDisc_145 : decode cX10_isDisc 145 = .ok (.istore 5, 2) := by decide +kernel
theorem dX10_isDisc_147 : decode cX10_isDisc 147 = .ok (.iinc 6 1, 3) := by decide +kernel
theorem dX10_isDisc_150 : decode cX10_isDisc 150 = .ok (.goto (-103), 3) := by decide +kernel
theorem dX10_isDisc_153 : decode cX10_isDisc 153 = .ok (.iload 4, 2) := by decide +kernel
theorem dX10_isDisc_155 : decode cX10_isDisc 155 = .ok (.iload 5, 2) := by decide +kernel
theorem dX10_isDisc_157 : decode cX10_isDisc 157 = .ok (.if_icmp .ge 21, 3) := by decide +kernel
theorem dX10_isDisc_160 : decode cX10_isDisc 160 = .ok (.aload_n 0, 1) := by decide +kernel
theorem dX10_isDisc_161 : decode cX10_isDisc 161 = .ok (.iload_n 3, 1) := by decide +kernel
theorem dX10_isDisc_162 : decode cX10_isDisc 162 = .ok (.putfield 177, 3) := by decide +kernel
theorem dX10_isDisc_165 : decode cX10_isDisc 165 = .ok (.aload_n 0, 1) := by decide +kernel
theorem dX10_isDisc_166 : decode cX10_isDisc 166 = .ok (.iload_n 2, 1) := by decide +kernel
theorem dX10_isDisc_167 : decode cX10_isDisc 167 = .ok (.putfield 180, 3) := by decide +kernel
theorem dX10_isDisc_170 : decode cX10_isDisc 170 = .ok (.aload_n 0, 1) := by decide +kernel
theorem dX10_isDisc_171 : decode cX10_isDisc 171 = .ok (.iload 4, 2) := by decide +kernel
theorem dX10_isDisc_173 : decode cX10_isDisc 173 = .ok (.putfield 183, 3) := by decide +kernel
theorem dX10_isDisc_176 : decode cX10_isDisc 176 = .ok (.iconst 1, 1) := by decide +kernel
theorem dX10_isDisc_177 : decode cX10_isDisc 177 = .ok (.ireturn, 1) := by decide +kernel
theorem dX10_isDisc_178 : decode cX10_isDisc 178 = .ok (.iinc 3 1, 3) := by decide +kernel
theorem dX10_isDisc_181 : decode cX10_isDisc 181 = .ok (.goto (-156), 3) := by decide +kernel
theorem dX10_isDisc_184 : decode cX10_isDisc 184 = .ok (.iinc 2 1, 3) := by decide +kernel
theorem dX10_isDisc_187 : decode cX10_isDisc 187 = .ok (.goto (-180), 3) := by decide +kernel
theorem dX10_isDisc_190 : decode cX10_isDisc 190 = .ok (.iconst 0, 1) := by decide +kernel
theorem dX10_isDisc_191 : decode cX10_isDisc 191 = .ok (.ireturn, 1) := by decide +kernel
set_option maxRecDepth 20000 in
theorem ggX10_is_X10_lacks : GoodIn wsX10_is wsX10_lacks := goodIn_r _ [6, 7, 8, 9, 10, 5, 11, 12, 13, 14, 15, 16, 17, 18, 19, 20, 21, 22, 23, 24, 25, 26, 27, 28, 29, 30, 31, 32, 33, 34, 35, 36, 37, 38, 39, 40, 41, 58, 59, 60, 61, 62, 63, 64, 65, 66, 67, 68, 69, 70, 71, 72, 73, 74, 75] rfl (by decide +kernel)
set_option maxRecDepth 20000 in
theorem gX10_is_X10_lacks : GoodIn wsX10_is (wsV RX10 173 RX10 yX10_lacks wsX10_lacks) := goodIn_app (goodIn_of _ (by decide +kernel)) ggX10_is_X10_lacks
set_option maxRecDepth 20000 in
theorem ggX10_is_X10_hasStairs : GoodIn wsX10_is wsX10_hasStairs := goodIn_r _ [45, 13, 12, 14, 15, 16, 5, 17, 7, 18, 19, 20, 21, 22, 23, 24, 58, 59, 60, 61, 62, 63, 64, 65, 66, 67, 68, 69, 70, 71, 72, 73, 74, 75] rfl (by decide +kernel)
set_option maxRecDepth 20000 in
theorem gX10_is_X10_hasStairs : GoodIn wsX10_is (wsV RX10 186 RX10 yX10_hasStairs wsX10_hasStairs) := goodIn_app (goodIn_of _ (by decide +kernel)) ggX10_is_X10_hasStairs
set_option maxRecDepth 20000 in
theorem ggX10_is_X10_isDisc : GoodIn wsX10_is wsX10_isDisc := goodIn_r _ [49, 13, 12, 50, 7, 51, 52, 53, 54, 55, 56, 5, 57, 34, 35, 36, 37, 58, 59, 60, 61, 62, 63, 64, 65, 66, 67, 68, 69, 70, 71, 72, 73, 74, 75] rfl (by decide +kernel)
set_option maxRecDepth 20000 in
theorem gX10_is_X10_isDisc : GoodIn wsX10_is (wsV RX10 190 RX10 yX10_isDisc wsX10_isDisc) := goodIn_app (goodIn_of _ (by decide +kernel)) ggX10_is_X10_isDisc
theorem dX10_is_0 : decode cX10_is 0 = .ok (.aload_n 0, 1) := by decide +kernel
theorem dX10_is_1 : decode cX10_is 1 = .ok (.iconst 0, 1) := by decide +kernel
theorem dX10_is_2 : decode cX10_is 2 = .ok (.putfield 52, 3) := by decide +kernel
theorem dX10_is_5 : decode cX10_is 5 = .ok (.iload_n 1, 1) := by decide +kernel
theorem dX10_is_6 : decode cX10_is 6 = .ok (.tableswitch 65 0 2 #[26, 39, 52], 26) := by decide +kernel
theorem dX10_is_32 : decode cX10_is 32 = .ok (.aload_n 0, 1) := by decide +kernel
theorem dX10_is_33 : decode cX10_is 33 = .ok (.invokevirtual 173, 3) := by decide +kernel
theorem dX10_is_36 : decode cX10_is 36 = .ok (.ifCond .ne 7, 3) := by decide +kernel
theorem dX10_is_39 : decode cX10_is 39 = .ok (.iconst 1, 1) := by decide +kernel
theorem dX10_is_40 : decode cX10_is 40 = .ok (.goto 4, 3) := by decide +kernel
theorem dX10_is_43 : decode cX10_is 43 = .ok (.iconst 0, 1) := by decide +kernel
theorem dX10_is_44 : decode cX10_is 44 = .ok (.ireturn, 1) := by decide +kernel
theorem dX10_is_45 : decode cX10_is 45 = .ok (.aload_n 0, 1) := by decide +kernel
theorem dX10_is_46 : decode cX10_is 46 = .ok (.invokevirtual 186, 3) := by decide +kernel
theorem dX10_is_49 : decode cX10_is 49 = .ok (.ifCond .eq 7, 3) := by decide +kernel
theorem dX10_is_52 : decode cX10_is 52 = .ok (.iconst 1, 1) := by decide +kernel
theorem dX10_is_53 : decode cX10_is 53 = .ok (.goto 4, 3) := by decide +kernel
theorem dX10_is_56 : decode cX10_is 56 = .ok (.iconst 0, 1) := by decide +kernel
theorem dX10_is_57 : decode cX10_is 57 = .ok (.ireturn, 1) := by decide +kernel
theorem dX10_is_58 : decode cX10_is 58 = .ok (.aload_n 0, 1) := by decide +kernel
theorem dX10_is_59 : decode cX10_is 59 = .ok (.invokevirtual 190, 3) := by decide +kernel
theorem dX10_is_62 : decode cX10_is 62 = .ok (.ifCond .eq 7, 3) := by decide +kernel
theorem dX10_is_65 : decode cX10_is 65 = .ok (.iconst 1, 1) := by decide +kernel
theorem dX10_is_66 : decode cX10_is 66 = .ok (.goto 4, 3) := by decide +kernel
theorem dX10_is_69 : decode cX10_is 69 = .ok (.iconst 0, 1) := by decide +kernel
theorem dX10_is_70 : decode cX10_is 70 = .ok (.ireturn, 1) := by decide +kernel
theorem dX10_is_71 : decode cX10_is 71 = .ok (.sipush (-1002), 3) := by decide +kernel
theorem dX10_is_74 : decode cX10_is 74 = .ok (.ireturn, 1) := by decide +kernel
set_option maxRecDepth 20000 in
theorem ggX10_disc_X10_in : GoodIn wsX10_disc wsX10_in := goodIn_r _ [9] rfl (by decide +kernel)
set_option maxRecDepth 20000 in
theorem gX10_disc_X10_in : GoodIn wsX10_disc (va_wsS RX10 64 yX10_in wsX10_in) := goodIn_app (goodIn_of _ (by decide +kernel)) ggX10_disc_X10_in
set_option maxRecDepth 20000 in
theorem ggX10_disc_X10_isDisc : GoodIn wsX10_disc wsX10_isDisc := goodIn_r _ [13, 14, 15, 16, 17, 3, 4, 5, 18, 19, 20, 8, 21, 22, 23, 24, 25, 26, 27, 28, 29, 30, 31, 32, 33, 34, 35, 36, 37, 38, 39, 40, 41, 42, 43] rfl (by decide +kernel)
set_option maxRecDepth 20000 in
theorem gX10_disc_X10_isDisc : GoodIn wsX10_disc (wsV RX10 190 RX10 yX10_isDisc wsX10_isDisc) := goodIn_app (goodIn_of _ (by decide +kernel)) ggX10_disc_X10_isDisc
theorem dX10_disc_0 : decode cX10_disc 0 = .ok (.aload_n 0, 1) := by decide +kernel
theorem dX10_disc_1 : decode cX10_disc 1 = .ok (.iconst 0, 1) := by decide +kernel
theorem dX10_disc_2 : decode cX10_disc 2 = .ok (.putfield 52, 3) := by decide +kernel
theorem dX10_disc_5 : decode cX10_disc 5 = .ok (.iload_n 1, 1) := by decide +kernel
theorem dX10_disc_6 : decode cX10_disc 6 = .ok (.i2l, 1) := by decide +kernel
theorem dX10_disc_7 : decode cX10_disc 7 = .ok (.lconst 0, 1) := by decide +kernel
theorem dX10_disc_8 : decode cX10_disc 8 = .ok (.ldc2_w 95, 3) := by decide +kernel
theorem dX10_disc_11 : decode cX10_disc 11 = .ok (.invokestatic 64, 3) := by decide +kernel
theorem dX10_disc_14 : decode cX10_disc 14 = .ok (.ifCond .ne 7, 3) := by decide +kernel
theorem dX10_disc_17 : decode cX10_disc 17 = .ok (.sipush (-1002), 3) := by decide +kernel
theorem dX10_disc_20 : decode cX10_disc 20 = .ok (.ireturn, 1) := by decide +kernel
theorem dX10_disc_21 : decode cX10_disc 21 = .ok (.aload_n 0, 1) := by decide +kernel
theorem dX10_disc_22 : decode cX10_disc 22 = .ok (.invokevirtual 190, 3) := by decide +kernel
theorem dX10_disc_25 : decode cX10_disc 25 = .ok (.ifCond .ne 9, 3) := by decide +kernel
theorem dX10_disc_28 : decode cX10_disc 28 = .ok (.sipush (-999), 3) := by decide +kernel
theorem dX10_disc_31 : decode cX10_disc 31 = .ok (.goto 30, 3) := by decide +kernel
theorem dX10_disc_34 : decode cX10_disc 34 = .ok (.iload_n 1, 1) := by decide +kernel
theorem dX10_disc_35 : decode cX10_disc 35 = .ok (.ifCond .ne 10, 3) := by decide +kernel
theorem dX10_disc_38 : decode cX10_disc 38 = .ok (.aload_n 0, 1) := by decide +kernel
theorem dX10_disc_39 : decode cX10_disc 39 = .ok (.getfield 177, 3) := by decide +kernel
theorem dX10_disc_42 : decode cX10_disc 42 = .ok (.goto 19, 3) := by decide +kernel
theorem dX10_disc_45 : decode cX10_disc 45 = .ok (.iload_n 1, 1) := by decide +kernel
theorem dX10_disc_46 : decode cX10_disc 46 = .ok (.iconst 1, 1) := by decide +kernel
theorem dX10_disc_47 : decode cX10_disc 47 = .ok (.if_icmp .ne 10, 3) := by decide +kernel
theorem dX10_disc_50 : decode cX10_disc 50 = .ok (.aload_n 0, 1) := by decide +kernel
theorem dX10_disc_51 : decode cX10_disc 51 = .ok (.getfield 180, 3) := by decide +kernel
theorem dX10_disc_54 : decode cX10_disc 54 = .ok (.goto 7, 3) := by decide +kernel
theorem dX10_disc_57 : decode cX10_disc 57 = .ok (.aload_n 0, 1) := by decide +kernel
theorem dX10_disc_58 : decode cX10_disc 58 = .ok (.getfield 183, 3) := by decide +kernel
theorem dX10_disc_61 : decode cX10_disc 61 = .ok (.ireturn, 1) := by decide +kernel
set_option maxRecDepth 20000 in
theorem ggX10_part_X10_noField : GoodIn wsX10_part wsX10_noField := goodIn_r _ [7, 8, 9, 10, 6, 11, 12, 13, 14, 15, 16, 34, 35, 36, 37, 38, 39, 40, 41, 42, 43, 44, 45, 46, 47, 48, 49, 50, 51] rfl (by decide +kernel)
set_option maxRecDepth 20000 in
theorem gX10_part_X10_noField : GoodIn wsX10_part (wsV RX10 126 RX10 yX10_noField wsX10_noField) := goodIn_app (goodIn_of _ (by decide +kernel)) ggX10_part_X10_noField
set_option maxRecDepth 20000 in
theorem ggX10_part_X10_hang : GoodIn wsX10_part wsX10_hang := goodIn_r _ [20, 2, 21, 22, 8, 9, 10, 6, 11, 12, 13, 23, 24, 25, 26, 27, 28, 29, 30, 31, 32, 33, 34, 35, 36, 37, 38, 39, 40, 41, 42, 43, 44, 45, 46, 47, 48, 49, 50, 51] rfl (by decide +kernel)
set_option maxRecDepth 20000 in
theorem gX10_part_X10_hang : GoodIn wsX10_part (wsV RX10 138 RX10 yX10_hang wsX10_hang) := goodIn_app (goodIn_of _ (by decide +kernel)) ggX10_part_X10_hang
theorem dX10_part_0 : decode cX10_part 0 = .ok (.aload_n 0, 1) := by decide +kernel
theorem dX10_part_1 : decode cX10_part 1 = .ok (.iconst 0, 1) := by decide +kernel
theorem dX10_part_2 : decode cX10_part 2 = .ok (.putfield 52, 3) := by decide +kernel
theorem dX10_part_5 : decode cX10_part 5 = .ok (.aload_n 0, 1) := by decide +kernel
theorem dX10_part_6 : decode cX10_part 6 = .ok (.iload_n 1, 1) := by decide +kernel
theorem dX10_part_7 : decode cX10_part 7 = .ok (.invokevirtual 126, 3) := by decide +kernel
theorem dX10_part_10 : decode cX10_part 10 = .ok (.ifCond .eq 7, 3) := by decide +kernel
theorem dX10_part_13 : decode cX10_part 13 = .ok (.sipush (-1001), 3) := by decide +kernel
theorem dX10_part_16 : decode cX10_part 16 = .ok (.ireturn, 1) := by decide +kernel
theorem dX10_part_17 : decode cX10_part 17 = .ok (.aload_n 0, 1) := by decide +kernel
theorem dX10_part_18 : decode cX10_part 18 = .ok (.iconst 1, 1) := by decide +kernel
theorem dX10_part_19 : decode cX10_part 19 = .ok (.invokevirtual 138, 3) := by decide +kernel
theorem dX10_part_22 : decode cX10_part 22 = .ok (.aload_n 0, 1) := by decide +kernel
theorem dX10_part_23 : decode cX10_part 23 = .ok (.getfield 34, 3) := by decide +kernel
theorem dX10_part_26 : decode cX10_part 26 = .ok (.iload_n 1, 1) := by decide +kernel
theorem dX10_part_27 : decode cX10_part 27 = .ok (.iaload, 1) := by decide +kernel
theorem dX10_part_28 : decode cX10_part 28 = .ok (.ireturn, 1) := by decide +kernel
set_option maxRecDepth 20000 in
theorem ggX10_hull_X10_corners : GoodIn wsX10_hull wsX10_corners := goodIn_r _ [6, 7, 8, 9, 10, 11, 5, 12, 13, 14, 15, 16, 17, 18, 19, 20, 21, 22, 23, 24, 25, 26, 27, 28, 29, 30, 31, 32, 33, 34, 35, 36, 37, 38, 39, 40, 41, 42, 43, 44, 45, 46, 47] rfl (by decide +kernel)
set_option maxRecDepth 20000 in
theorem gX10_hull_X10_corners : GoodIn wsX10_hull (wsV RX10 158 RX10 yX10_corners wsX10_corners) := goodIn_app (goodIn_of _ (by decide +kernel)) ggX10_hull_X10_corners
theorem dX10_hull_0 : decode cX10_hull 0 = .ok (.aload_n 0, 1) := by decide +kernel
theorem dX10_hull_1 : decode cX10_hull 1 = .ok (.iconst 0, 1) := by decide +kernel
theorem dX10_hull_2 : decode cX10_hull 2 = .ok (.putfield 52, 3) := by decide +kernel
theorem dX10_hull_5 : decode cX10_hull 5 = .ok (.aload_n 0, 1) := by decide +kernel
theorem dX10_hull_6 : decode cX10_hull 6 = .ok (.invokevirtual 158, 3) := by decide +kernel
theorem dX10_hull_9 : decode cX10_hull 9 = .ok (.ireturn, 1) := by decide +kernel
set_option maxRecDepth 20000 in
theorem ggX10_corner_X10_corners : GoodIn wsX10_corner wsX10_corners := goodIn_r _ [7, 8, 9, 10, 11, 12, 6, 13, 14, 15, 16, 17, 18, 19, 20, 21, 22, 23, 24, 25, 2, 26, 27, 28, 29, 30, 31, 32, 33, 34, 35, 36, 37, 38, 39, 40, 41, 42, 43, 44, 45, 46, 47] rfl (by decide +kernel)
set_option maxRecDepth 20000 in
theorem gX10_corner_X10_corners : GoodIn wsX10_corner (wsV RX10 158 RX10 yX10_corners wsX10_corners) := goodIn_app (goodIn_of _ (by decide +kernel)) ggX10_corner_X10_corners
set_option maxRecDepth 20000 in
theorem ggX10_corner_X10_in : GoodIn wsX10_corner wsX10_in := goodIn_r _ [21] rfl (by decide +kernel)
set_option maxRecDepth 20000 in
theorem gX10_corner_X10_in : GoodIn wsX10_corner (va_wsS RX10 64 yX10_in wsX10_in) := goodIn_app (goodIn_of _ (by decide +kernel)) ggX10_corner_X10_in
theorem dX10_corner_0 : decode cX10_corner 0 = .ok (.aload_n 0, 1) := by decide +kernel
theorem dX10_corner_1 : decode cX10_corner 1 = .ok (.iconst 0, 1) := by decide +kernel
theorem dX10_corner_2 : decode cX10_corner 2 = .ok (.putfield 52, 3) := by decide +kernel
theorem dX10_corner_5 : decode cX10_corner 5 = .ok (.aload_n 0, 1) := by decide +kernel
theorem dX10_corner_6 : decode cX10_corner 6 = .ok (.invokevirtual 158, 3) := by decide +kernel
theorem dX10_corner_9 : decode cX10_corner 9 = .ok (.istore_n 2, 1) := by decide +kernel
theorem dX10_corner_10 : decode cX10_corner 10 = .ok (.iload_n 1, 1) := by decide +kernel
theorem dX10_corner_11 : decode cX10_corner 11 = .ok (.i2l, 1) := by decide +kernel
theorem dX10_corner_12 : decode cX10_corner 12 = .ok (.lconst 0, 1) := by decide +kernel
theorem dX10_corner_13 : decode cX10_corner 13 = .ok (.iload_n 2, 1) := by decide +kernel
theorem dX10_corner_14 : decode cX10_corner 14 = .ok (.iconst 1, 1) := by decide +kernel
theorem dX10_corner_15 : decode cX10_corner 15 = .ok (.isub, 1) := by decide +kernel
theorem dX10_corner_16 : decode cX10_corner 16 = .ok (.i2l, 1) := by decide +kernel
theorem dX10_corner_17 : decode cX10_corner 17 = .ok (.invokestatic 64, 3) := by decide +kernel
theorem dX10_corner_20 : decode cX10_corner 20 = .ok (.ifCond .eq 12, 3) := by decide +kernel
theorem dX10_corner_23 : decode cX10_corner 23 = .ok (.aload_n 0, 1) := by decide +kernel
theorem dX10_corner_24 : decode cX10_corner 24 = .ok (.getfield 43, 3) := by decide +kernel
theorem dX10_corner_27 : decode cX10_corner 27 = .ok (.iload_n 1, 1) := by decide +kernel
theorem dX10_corner_28 : decode cX10_corner 28 = .ok (.iaload, 1) := by decide +kernel
theorem dX10_corner_29 : decode cX10_corner 29 = .ok (.goto 6, 3) := by decide +kernel
theorem dX10_corner_32 : decode cX10_corner 32 = .ok (.sipush (-999), 3) := by decide +kernel
theorem dX10_corner_35 : decode cX10_corner 35 = .ok (.ireturn, 1) := by decide +kernel
set_option maxRecDepth 20000 in
theorem ggX10_depthOf_X10_isOf : GoodIn wsX10_depthOf wsX10_isOf := goodIn_r _ [9, 1, 4, 10, 11, 12, 8, 13, 3, 14, 15, 16, 17, 18, 19, 20, 21, 22, 23, 24, 25, 26, 27, 28, 29, 30, 31, 32, 33, 34] rfl (by decide +kernel)
set_option maxRecDepth 20000 in
theorem gX10_depthOf_X10_isOf : GoodIn wsX10_depthOf (wsV RX10 148 RX10 yX10_isOf wsX10_isOf) := goodIn_app (goodIn_of _ (by decide +kernel)) ggX10_depthOf_X10_isOf
theorem dX10_depthOf_0 : decode cX10_depthOf 0 = .ok (.aload_n 0, 1) := by decide +kernel
theorem dX10_depthOf_1 : decode cX10_depthOf 1 = .ok (.getfield 27, 3) := by decide +kernel
theorem dX10_depthOf_4 : decode cX10_depthOf 4 = .ok (.iload_n 1, 1) := by decide +kernel
theorem dX10_depthOf_5 : decode cX10_depthOf 5 = .ok (.baload, 1) := by decide +kernel
theorem dX10_depthOf_6 : decode cX10_depthOf 6 = .ok (.ifCond .eq 8, 3) := by decide +kernel
theorem dX10_depthOf_9 : decode cX10_depthOf 9 = .ok (.ldc 176, 2) := by decide +kernel
theorem dX10_depthOf_11 : decode cX10_depthOf 11 = .ok (.goto 4, 3) := by decide +kernel
theorem dX10_depthOf_14 : decode cX10_depthOf 14 = .ok (.iconst 0, 1) := by decide +kernel
theorem dX10_depthOf_15 : decode cX10_depthOf 15 = .ok (.istore_n 2, 1) := by decide +kernel
theorem dX10_depthOf_16 : decode cX10_depthOf 16 = .ok (.iconst (-1), 1) := by decide +kernel
theorem dX10_depthOf_17 : decode cX10_depthOf 17 = .ok (.istore_n 3, 1) := by decide +kernel
theorem dX10_depthOf_18 : decode cX10_depthOf 18 = .ok (.iload_n 3, 1) := by decide +kernel
theorem dX10_depthOf_19 : decode cX10_depthOf 19 = .ok (.aload_n 0, 1) := by decide +kernel
theorem dX10_depthOf_20 : decode cX10_depthOf 20 = .ok (.getfield 24, 3) := by decide +kernel
theorem dX10_depthOf_23 : decode cX10_depthOf 23 = .ok (.if_icmp .gt 84, 3) := by decide +kernel
theorem dX10_depthOf_26 : decode cX10_depthOf 26 = .ok (.iconst (-1), 1) := by decide +kernel
theorem dX10_depthOf_27 : decode cX10_depthOf 27 = .ok (.istore 4, 2) := by decide +kernel
theorem dX10_depthOf_29 : decode cX10_depthOf 29 = .ok (.iload 4, 2) := by decide +kernel
theorem dX10_depthOf_31 : decode cX10_depthOf 31 = .ok (.aload_n 0, 1) := by decide +kernel
theorem dX10_depthOf_32 : decode cX10_depthOf 32 = .ok (.getfield 20, 3) := by decide +kernel
theorem dX10_depthOf_35 : decode cX10_depthOf 35 = .ok (.if_icmp .gt 66, 3) := by decide +kernel
theorem dX10_depthOf_38 : decode cX10_depthOf 38 = .ok (.iload_n 1, 1) := by decide +kernel
theorem dX10_depthOf_39 : decode cX10_depthOf 39 = .ok (.aload_n 0, 1) := by decide +kernel
theorem dX10_depthOf_40 : decode cX10_depthOf 40 = .ok (.getfield 20, 3) := by decide +kernel
theorem dX10_depthOf_43 : decode cX10_depthOf 43 = .ok (.irem, 1) := by decide +kernel
theorem dX10_depthOf_44 : decode cX10_depthOf 44 = .ok (.iload 4, 2) := by decide +kernel
theorem dX10_depthOf_46 : decode cX10_depthOf 46 = .ok (.isub, 1) := by decide +kernel
theorem dX10_depthOf_47 : decode cX10_depthOf 47 = .ok (.istore 5, 2) := by decide +kernel
theorem dX10_depthOf_49 : decode cX10_depthOf 49 = .ok (.iload_n 1, 1) := by decide +kernel
theorem dX10_depthOf_50 : decode cX10_depthOf 50 = .ok (.aload_n 0, 1) := by decide +kernel
theorem dX10_depthOf_51 : decode cX10_depthOf 51 = .ok (.getfield 20, 3) := by decide +kernel
theorem dX10_depthOf_54 : decode cX10_depthOf 54 = .ok (.idiv, 1) := by decide +kernel
theorem dX10_depthOf_55 : decode cX10_depthOf 55 = .ok (.iload_n 3, 1) := by decide +kernel
theorem dX10_depthOf_56 : decode cX10_depthOf 56 = .ok (.isub, 1) := by decide +kernel
theorem dX10_depthOf_57 : decode cX10_depthOf 57 = .ok (.istore 6, 2) := by decide +kernel
theorem dX10_depthOf_59 : decode cX10_depthOf 59 = .ok (.iload 5, 2) := by decide +kernel
theorem dX10_depthOf_61 : decode cX10_depthOf 61 = .ok (.iload 5, 2) := by decide +kernel
theorem dX10_depthOf_63 : decode cX10_depthOf 63 = .ok (.imul, 1) := by decide +kernel
theorem dX10_depthOf_64 : decode cX10_depthOf 64 = .ok (.iload 6, 2) := by decide +kernel
theorem dX10_depthOf_66 : decode cX10_depthOf 66 = .ok (.iload 6, 2) := by decide +kernel
theorem dX10_depthOf_68 : decode cX10_depthOf 68 = .ok (.imul, 1) := by decide +kernel
theorem dX10_depthOf_69 : decode cX10_depthOf 69 = .ok (.iadd, 1) := by decide +kernel
theorem dX10_depthOf_70 : decode cX10_depthOf 70 = .ok (.istore 7, 2) := by decide +kernel
theorem dX10_depthOf_72 : decode cX10_depthOf 72 = .ok (.aload_n 0, 1) := by decide +kernel
theorem dX10_depthOf_73 : decode cX10_depthOf 73 = .ok (.iload 4, 2) := by decide +kernel
theorem dX10_depthOf_75 : decode cX10_depthOf 75 = .ok (.iload_n 3, 1) := by decide +kernel
theorem dX10_depthOf_76 : decode cX10_depthOf 76 = .ok (.invokevirtual 148, 3) := by decide +kernel
theorem dX10_depthOf_79 : decode cX10_depthOf 79 = .ok (.ifCond .ne 14, 3) := by decide +kernel
theorem dX10_depthOf_82 : decode cX10_depthOf 82 = .ok (.iload 7, 2) := by decide +kernel
theorem dX10_depthOf_84 : decode cX10_depthOf 84 = .ok (.iload_n 2, 1) := by decide +kernel
theorem dX10_depthOf_85 : decode cX10_depthOf 85 = .ok (.if_icmp .ge 8, 3) := by decide +kernel
theorem dX10_depthOf_88 : decode cX10_depthOf 88 = .ok (.iload 7, 2) := by decide +kernel
theorem dX10_depthOf_90 : decode cX10_depthOf 90 = .ok (.goto 4, 3) := by decide +kernel
theorem dX10_depthOf_93 : decode cX10_depthOf 93 = .ok (.iload_n 2, 1) := by decide +kernel
theorem dX10_depthOf_94 : decode cX10_depthOf 94 = .ok (.istore_n 2, 1) := by decide +kernel
theorem dX10_depthOf_95 : decode cX10_depthOf 95 = .ok (.iinc 4 1, 3) := by decide +kernel
theorem dX10_depthOf_98 : decode cX10_depthOf 98 = .ok (.goto (-69), 3) := by decide +kernel
theorem dX10_depthOf_101 : decode cX10_depthOf 101 = .ok (.iinc 3 1, 3) := by decide +kernel
theorem dX10_depthOf_104 : decode cX10_depthOf 104 = .ok (.goto (-86), 3) := by decide +kernel
theorem dX10_depthOf_107 : decode cX10_depthOf 107 = .ok (.iload_n 2, 1) := by decide +kernel
theorem dX10_depthOf_108 : decode cX10_depthOf 108 = .ok (.ireturn, 1) := by decide +kernel
set_option maxRecDepth 20000 in
theorem ggX10_deep_X10_noField : GoodIn wsX10_deep wsX10_noField := goodIn_r _ [6, 7, 8, 9, 5, 10, 11, 12, 13, 14, 15, 30, 31, 32, 33, 34, 35, 36, 37, 38, 39, 40, 41, 42, 43, 44, 45, 46, 47] rfl (by decide +kernel)
set_option maxRecDepth 20000 in
theorem gX10_deep_X10_noField : GoodIn wsX10_deep (wsV RX10 126 RX10 yX10_noField wsX10_noField) := goodIn_app (goodIn_of _ (by decide +kernel)) ggX10_deep_X10_noField
set_option maxRecDepth 20000 in
theorem ggX10_deep_X10_depthOf : GoodIn wsX10_deep wsX10_depthOf := goodIn_r _ [19, 20, 21, 12, 11, 22, 23, 24, 5, 25, 26, 27, 28, 29, 13, 14, 15, 30, 31, 32, 33, 34, 35, 36, 37, 38, 39, 40, 41, 42, 43, 44, 45, 46, 47] rfl (by decide +kernel)
set_option maxRecDepth 20000 in
theorem gX10_deep_X10_depthOf : GoodIn wsX10_deep (wsV RX10 193 RX10 yX10_depthOf wsX10_depthOf) := goodIn_app (goodIn_of _ (by decide +kernel)) ggX10_deep_X10_depthOf
theorem dX10_deep_0 : decode cX10_deep 0 = .ok (.aload_n 0, 1) := by decide +kernel
theorem dX10_deep_1 : decode cX10_deep 1 = .ok (.iconst 0, 1) := by decide +kernel
theorem dX10_deep_2 : decode cX10_deep 2 = .ok (.putfield 52, 3) := by decide +kernel
theorem dX10_deep_5 : decode cX10_deep 5 = .ok (.aload_n 0, 1) := by decide +kernel
theorem dX10_deep_6 : decode cX10_deep 6 = .ok (.iload_n 1, 1) := by decide +kernel
theorem dX10_deep_7 : decode cX10_deep 7 = .ok (.invokevirtual 126, 3) := by decide +kernel
theorem dX10_deep_10 : decode cX10_deep 10 = .ok (.ifCond .eq 9, 3) := by decide +kernel
theorem dX10_deep_13 : decode cX10_deep 13 = .ok (.sipush (-1001), 3) := by decide +kernel
theorem dX10_deep_16 : decode cX10_deep 16 = .ok (.goto 8, 3) := by decide +kernel
theorem dX10_deep_19 : decode cX10_deep 19 = .ok (.aload_n 0, 1) := by decide +kernel
theorem dX10_deep_20 : decode cX10_deep 20 = .ok (.iload_n 1, 1) := by decide +kernel
theorem dX10_deep_21 : decode cX10_deep 21 = .ok (.invokevirtual 193, 3) := by decide +kernel
theorem dX10_deep_24 : decode cX10_deep 24 = .ok (.ireturn, 1) := by decide +kernel
set_option maxRecDepth 20000 in
theorem ggX10_deepest_X10_fields : GoodIn wsX10_deepest wsX10_fields := goodIn_r _ [6, 7, 8, 26, 27, 28, 29, 30, 31, 32, 33, 34, 35, 36, 37, 38, 39, 40, 41, 42, 43] rfl (by decide +kernel)
set_option maxRecDepth 20000 in
theorem gX10_deepest_X10_fields : GoodIn wsX10_deepest (wsV RX10 117 RX10 yX10_fields wsX10_fields) := goodIn_app (goodIn_of _ (by decide +kernel)) ggX10_deepest_X10_fields
set_option maxRecDepth 20000 in
theorem ggX10_deepest_X10_depthOf : GoodIn wsX10_deepest wsX10_depthOf := goodIn_r _ [12, 13, 14, 8, 7, 15, 16, 17, 5, 18, 19, 20, 21, 22, 23, 24, 25, 26, 27, 28, 29, 30, 31, 32, 33, 34, 35, 36, 37, 38, 39, 40, 41, 42, 43] rfl (by decide +kernel)
set_option maxRecDepth 20000 in
theorem gX10_deepest_X10_depthOf : GoodIn wsX10_deepest (wsV RX10 193 RX10 yX10_depthOf wsX10_depthOf) := goodIn_app (goodIn_of _ (by decide +kernel)) ggX10_deepest_X10_depthOf
theorem dX10_deepest_0 : decode cX10_deepest 0 = .ok (.aload_n 0, 1) := by decide +kernel
theorem dX10_deepest_1 : decode cX10_deepest 1 = .ok (.iconst 0, 1) := by decide +kernel
theorem dX10_deepest_2 : decode cX10_deepest 2 = .ok (.putfield 52, 3) := by decide +kernel
theorem dX10_deepest_5 : decode cX10_deepest 5 = .ok (.iconst 0, 1) := by decide +kernel
theorem dX10_deepest_6 : decode cX10_deepest 6 = .ok (.istore_n 2, 1) := by decide +kernel
theorem dX10_deepest_7 : decode cX10_deepest 7 = .ok (.sipush (-999), 3) := by decide +kernel
theorem dX10_deepest_10 : decode cX10_deepest 10 = .ok (.istore_n 3, 1) := by decide +kernel
theorem dX10_deepest_11 : decode cX10_deepest 11 = .ok (.iconst 0, 1) := by decide +kernel
theorem dX10_deepest_12 : decode cX10_deepest 12 = .ok (.istore 4, 2) := by decide +kernel
theorem dX10_deepest_14 : decode cX10_deepest 14 = .ok (.iload 4, 2) := by decide +kernel
theorem dX10_deepest_16 : decode cX10_deepest 16 = .ok (.aload_n 0, 1) := by decide +kernel
theorem dX10_deepest_17 : decode cX10_deepest 17 = .ok (.invokevirtual 117, 3) := by decide +kernel
theorem dX10_deepest_20 : decode cX10_deepest 20 = .ok (.if_icmp .ge 29, 3) := by decide +kernel
theorem dX10_deepest_23 : decode cX10_deepest 23 = .ok (.aload_n 0, 1) := by decide +kernel
theorem dX10_deepest_24 : decode cX10_deepest 24 = .ok (.iload 4, 2) := by decide +kernel
theorem dX10_deepest_26 : decode cX10_deepest 26 = .ok (.invokevirtual 193, 3) := by decide +kernel
theorem dX10_deepest_29 : decode cX10_deepest 29 = .ok (.istore 5, 2) := by decide +kernel
theorem dX10_deepest_31 : decode cX10_deepest 31 = .ok (.iload 5, 2) := by decide +kernel
theorem dX10_deepest_33 : decode cX10_deepest 33 = .ok (.iload_n 2, 1) := by decide +kernel
theorem dX10_deepest_34 : decode cX10_deepest 34 = .ok (.if_icmp .le 9, 3) := by decide +kernel
theorem dX10_deepest_37 : decode cX10_deepest 37 = .ok (.iload 5, 2) := by decide +kernel
theorem dX10_deepest_39 : decode cX10_deepest 39 = .ok (.istore_n 2, 1) := by decide +kernel
theorem dX10_deepest_40 : decode cX10_deepest 40 = .ok (.iload 4, 2) := by decide +kernel
theorem dX10_deepest_42 : decode cX10_deepest 42 = .ok (.istore_n 3, 1) := by decide +kernel
theorem dX10_deepest_43 : decode cX10_deepest 43 = .ok (.iinc 4 1, 3) := by decide +kernel
theorem dX10_deepest_46 : decode cX10_deepest 46 = .ok (.goto (-32), 3) := by decide +kernel
theorem dX10_deepest_49 : decode cX10_deepest 49 = .ok (.iload_n 1, 1) := by decide +kernel
theorem dX10_deepest_50 : decode cX10_deepest 50 = .ok (.ifCond .eq 7, 3) := by decide +kernel
theorem dX10_deepest_53 : decode cX10_deepest 53 = .ok (.iload_n 3, 1) := by decide +kernel
theorem dX10_deepest_54 : decode cX10_deepest 54 = .ok (.goto 4, 3) := by decide +kernel
theorem dX10_deepest_57 : decode cX10_deepest 57 = .ok (.iload_n 2, 1) := by decide +kernel
theorem dX10_deepest_58 : decode cX10_deepest 58 = .ok (.ireturn, 1) := by decide +kernel
set_option maxRecDepth 20000 in
theorem ggX10_measure_X10_fields : GoodIn wsX10_measure wsX10_fields := goodIn_r _ [6, 7, 8, 26, 27, 28, 29, 30, 31, 32, 33, 34, 35, 36, 37, 38, 39, 40, 41, 42, 43] rfl (by decide +kernel)
set_option maxRecDepth 20000 in
theorem gX10_measure_X10_fields : GoodIn wsX10_measure (wsV RX10 117 RX10 yX10_fields wsX10_fields) := goodIn_app (goodIn_of _ (by decide +kernel)) ggX10_measure_X10_fields
set_option maxRecDepth 20000 in
theorem ggX10_measure_X10_depthOf : GoodIn wsX10_measure wsX10_depthOf := goodIn_r _ [12, 13, 14, 8, 7, 15, 16, 17, 5, 18, 19, 20, 21, 22, 23, 24, 25, 26, 27, 28, 29, 30, 31, 32, 33, 34, 35, 36, 37, 38, 39, 40, 41, 42, 43] rfl (by decide +kernel)
set_option maxRecDepth 20000 in
theorem gX10_measure_X10_depthOf : GoodIn wsX10_measure (wsV RX10 193 RX10 yX10_depthOf wsX10_depthOf) := goodIn_app (goodIn_of _ (by decide +kernel)) ggX10_measure_X10_depthOf
theorem dX10_measure_0 : decode cX10_measure 0 = .ok (.iconst 0, 1) := by decide +kernel
theorem dX10_measure_1 : decode cX10_measure 1 = .ok (.istore_n 1, 1) := by decide +kernel
theorem dX10_measure_2 : decode cX10_measure 2 = .ok (.iload_n 1, 1) := by decide +kernel
theorem dX10_measure_3 : decode cX10_measure 3 = .ok (.aload_n 0, 1) := by decide +kernel
theorem dX10_measure_4 : decode cX10_measure 4 = .ok (.invokevirtual 117, 3) := by decide +kernel
theorem dX10_measure_7 : decode cX10_measure 7 = .ok (.if_icmp .ge 20, 3) := by decide +kernel
theorem dX10_measure_10 : decode cX10_measure 10 = .ok (.aload_n 0, 1) := by decide +kernel
theorem dX10_measure_11 : decode cX10_measure 11 = .ok (.getfield 37, 3) := by decide +kernel
theorem dX10_measure_14 : decode cX10_measure 14 = .ok (.iload_n 1, 1) := by decide +kernel
theorem dX10_measure_15 : decode cX10_measure 15 = .ok (.aload_n 0, 1) := by decide +kernel
theorem dX10_measure_16 : decode cX10_measure 16 = .ok (.iload_n 1, 1) := by decide +kernel
theorem dX10_measure_17 : decode cX10_measure 17 = .ok (.invokevirtual 193, 3) := by decide +kernel
theorem dX10_measure_20 : decode cX10_measure 20 = .ok (.iastore, 1) := by decide +kernel
theorem dX10_measure_21 : decode cX10_measure 21 = .ok (.iinc 1 1, 3) := by decide +kernel
theorem dX10_measure_24 : decode cX10_measure 24 = .ok (.goto (-22), 3) := by decide +kernel
theorem dX10_measure_27 : decode cX10_measure 27 = .ok (.return_, 1) := by decide +kernel
set_option maxRecDepth 20000 in
theorem ggX10_isNeeded_X10_fields : GoodIn wsX10_isNeeded wsX10_fields := goodIn_r _ [9, 2, 10, 11, 12, 13, 14, 15, 16, 17, 18, 19, 20, 21, 22, 23, 24, 25, 26, 27, 28] rfl (by decide +kernel)
set_option maxRecDepth 20000 in
theorem gX10_isNeeded_X10_fields : GoodIn wsX10_isNeeded (wsV RX10 117 RX10 yX10_fields wsX10_fields) := goodIn_app (goodIn_of _ (by decide +kernel)) ggX10_isNeeded_X10_fields
theorem dX10_isNeeded_0 : decode cX10_isNeeded 0 = .ok (.aload_n 0, 1) := by decide +kernel
theorem dX10_isNeeded_1 : decode cX10_isNeeded 1 = .ok (.getfield 27, 3) := by decide +kernel
theorem dX10_isNeeded_4 : decode cX10_isNeeded 4 = .ok (.iload_n 1, 1) := by decide +kernel
theorem dX10_isNeeded_5 : decode cX10_isNeeded 5 = .ok (.baload, 1) := by decide +kernel
theorem dX10_isNeeded_6 : decode cX10_isNeeded 6 = .ok (.istore_n 2, 1) := by decide +kernel
theorem dX10_isNeeded_7 : decode cX10_isNeeded 7 = .ok (.iconst 0, 1) := by decide +kernel
theorem dX10_isNeeded_8 : decode cX10_isNeeded 8 = .ok (.istore_n 3, 1) := by decide +kernel
theorem dX10_isNeeded_9 : decode cX10_isNeeded 9 = .ok (.iload_n 3, 1) := by decide +kernel
theorem dX10_isNeeded_10 : decode cX10_isNeeded 10 = .ok (.aload_n 0, 1) := by decide +kernel
theorem dX10_isNeeded_11 : decode cX10_isNeeded 11 = .ok (.invokevirtual 117, 3) := by decide +kernel
theorem dX10_isNeeded_14 : decode cX10_isNeeded 14 = .ok (.if_icmp .ge 139, 3) := by decide +kernel
theorem dX10_isNeeded_17 : decode cX10_isNeeded 17 = .ok (.iload_n 2, 1) := by decide +kernel
theorem dX10_isNeeded_18 : decode cX10_isNeeded 18 = .ok (.ifCond .eq 135, 3) := by decide +kernel
theorem dX10_isNeeded_21 : decode cX10_isNeeded 21 = .ok (.iload_n 1, 1) := by decide +kernel
theorem dX10_isNeeded_22 : decode cX10_isNeeded 22 = .ok (.aload_n 0, 1) := by decide +kernel
theorem dX10_isNeeded_23 : decode cX10_isNeeded 23 = .ok (.getfield 20, 3) := by decide +kernel
theorem dX10_isNeeded_26 : decode cX10_isNeeded 26 = .ok (.irem, 1) := by decide +kernel
theorem dX10_isNeeded_27 : decode cX10_isNeeded 27 = .ok (.iload_n 3, 1) := by decide +kernel
theorem dX10_isNeeded_28 : decode cX10_isNeeded 28 = .ok (.aload_n 0, 1) := by decide +kernel
theorem dX10_isNeeded_29 : decode cX10_isNeeded 29 = .ok (.getfield 20, 3) := by decide +kernel
theorem dX10_isNeeded_32 : decode cX10_isNeeded 32 = .ok (.irem, 1) := by decide +kernel
theorem dX10_isNeeded_33 : decode cX10_isNeeded 33 = .ok (.isub, 1) := by decide +kernel
theorem dX10_isNeeded_34 : decode cX10_isNeeded 34 = .ok (.istore 4, 2) := by decide +kernel
theorem dX10_isNeeded_36 : decode cX10_isNeeded 36 = .ok (.iload_n 1, 1) := by decide +kernel
theorem dX10_isNeeded_37 : decode cX10_isNeeded 37 = .ok (.aload_n 0, 1) := by decide +kernel
theorem dX10_isNeeded_38 : decode cX10_isNeeded 38 = .ok (.getfield 20, 3) := by decide +kernel
theorem dX10_isNeeded_41 : decode cX10_isNeeded 41 = .ok (.idiv, 1) := by decide +kernel
theorem dX10_isNeeded_42 : decode cX10_isNeeded 42 = .ok (.iload_n 3, 1) := by decide +kernel
theorem dX10_isNeeded_43 : decode cX10_isNeeded 43 = .ok (.aload_n 0, 1) := by decide +kernel
theorem dX10_isNeeded_44 : decode cX10_isNeeded 44 = .ok (.getfield 20, 3) := by decide +kernel
theorem dX10_isNeeded_47 : decode cX10_isNeeded 47 = .ok (.idiv, 1) := by decide +kernel
theorem dX10_isNeeded_48 : decode cX10_isNeeded 48 = .ok (.isub, 1) := by decide +kernel
theorem dX10_isNeeded_49 : decode cX10_isNeeded 49 = .ok (.istore 5, 2) := by decide +kernel
theorem dX10_isNeeded_51 : decode cX10_isNeeded 51 = .ok (.iload 4, 2) := by decide +kernel
theorem dX10_isNeeded_53 : decode cX10_isNeeded 53 = .ok (.iload 4, 2) := by decide +kernel
theorem dX10_isNeeded_55 : decode cX10_isNeeded 55 = .ok (.imul, 1) := by decide +kernel
theorem dX10_isNeeded_56 : decode cX10_isNeeded 56 = .ok (.iload 5, 2) := by decide +kernel
theorem dX10_isNeeded_58 : decode cX10_isNeeded 58 = .ok (.iload 5, 2) := by decide +kernel
theorem dX10_isNeeded_60 : decode cX10_isNeeded 60 = .ok (.imul, 1) := by decide +kernel
theorem dX10_isNeeded_61 : decode cX10_isNeeded 61 = .ok (.iadd, 1) := by decide +kernel
theorem dX10_isNeeded_62 : decode cX10_isNeeded 62 = .ok (.i2l, 1) := by decide +kernel
theorem dX10_isNeeded_63 : decode cX10_isNeeded 63 = .ok (.lstore 6, 2) := by decide +kernel
theorem dX10_isNeeded_65 : decode cX10_isNeeded 65 = .ok (.aload_n 0, 1) := by decide +kernel
theorem dX10_isNeeded_66 : decode cX10_isNeeded 66 = .ok (.getfield 37, 3) := by decide +kernel
theorem dX10_isNeeded_69 : decode cX10_isNeeded 69 = .ok (.iload_n 3, 1) := by decide +kernel
theorem dX10_isNeeded_70 : decode cX10_isNeeded 70 = .ok (.iaload, 1) := by decide +kernel
theorem dX10_isNeeded_71 : decode cX10_isNeeded 71 = .ok (.i2l, 1) := by decide +kernel
theorem dX10_isNeeded_72 : decode cX10_isNeeded 72 = .ok (.lload 6, 2) := by decide +kernel
theorem dX10_isNeeded_74 : decode cX10_isNeeded 74 = .ok (.lsub, 1) := by decide +kernel
theorem dX10_isNeeded_75 : decode cX10_isNeeded 75 = .ok (.aload_n 0, 1) := by decide +kernel
theorem dX10_isNeeded_76 : decode cX10_isNeeded 76 = .ok (.getfield 37, 3) := by decide +kernel
theorem dX10_isNeeded_79 : decode cX10_isNeeded 79 = .ok (.iload_n 1, 1) := by decide +kernel
theorem dX10_isNeeded_80 : decode cX10_isNeeded 80 = .ok (.iaload, 1) := by decide +kernel
theorem dX10_isNeeded_81 : decode cX10_isNeeded 81 = .ok (.i2l, 1) := by decide +kernel
theorem dX10_isNeeded_82 : decode cX10_isNeeded 82 = .ok (.lsub, 1) := by decide +kernel
theorem dX10_isNeeded_83 : decode cX10_isNeeded 83 = .ok (.lstore 8, 2) := by decide +kernel
theorem dX10_isNeeded_85 : decode cX10_isNeeded 85 = .ok (.iload_n 3, 1) := by decide +kernel
theorem dX10_isNeeded_86 : decode cX10_isNeeded 86 = .ok (.iload_n 1, 1) := by decide +kernel
theorem dX10_isNeeded_87 : decode cX10_isNeeded 87 = .ok (.if_icmp .eq 46, 3) := by decide +kernel
theorem dX10_isNeeded_90 : decode cX10_isNeeded 90 = .ok (.aload_n 0, 1) := by decide +kernel
theorem dX10_isNeeded_91 : decode cX10_isNeeded 91 = .ok (.getfield 27, 3) := by decide +kernel
theorem dX10_isNeeded_94 : decode cX10_isNeeded 94 = .ok (.iload_n 3, 1) := by decide +kernel
theorem dX10_isNeeded_95 : decode cX10_isNeeded 95 = .ok (.baload, 1) := by decide +kernel
theorem dX10_isNeeded_96 : decode cX10_isNeeded 96 = .ok (.ifCond .eq 37, 3) := by decide +kernel
theorem dX10_isNeeded_99 : decode cX10_isNeeded 99 = .ok (.lload 8, 2) := by decide +kernel
theorem dX10_isNeeded_101 : decode cX10_isNeeded 101 = .ok (.lconst 0, 1) := by decide +kernel
theorem dX10_isNeeded_102 : decode cX10_isNeeded 102 = .ok (.lcmp, 1) := by decide +kernel
theorem dX10_isNeeded_103 : decode cX10_isNeeded 103 = .ok (.ifCond .lt 30, 3) := by decide +kernel
theorem dX10_isNeeded_106 : decode cX10_isNeeded 106 = .ok (.lload 8, 2) := by decide +kernel
theorem dX10_isNeeded_108 : decode cX10_isNeeded 108 = .ok (.lload 8, 2) := by decide +kernel
theorem dX10_isNeeded_110 : decode cX10_isNeeded 110 = .ok (.lmul, 1) := by decide +kernel
theorem dX10_isNeeded_111 : decode cX10_isNeeded 111 = .ok (.ldc2_w 196, 3) := by decide +kernel
theorem dX10_isNeeded_114 : decode cX10_isNeeded 114 = .ok (.lload 6, 2) := by decide +kernel
theorem dX10_isNeeded_116 : decode cX10_isNeeded 116 = .ok (.lmul, 1) := by decide +kernel
theorem dX10_isNeeded_117 : decode cX10_isNeeded 117 = .ok (.aload_n 0, 1) := by decide +kernel
theorem dX10_isNeeded_118 : decode cX10_isNeeded 118 = .ok (.getfield 37, 3) := by decide +kernel
theorem dX10_isNeeded_121 : decode cX10_isNeeded 121 = .ok (.iload_n 1, 1) := by decide +kernel
theorem dX10_isNeeded_122 : decode cX10_isNeeded 122 = .ok (.iaload, 1) := by decide +kernel
theorem dX10_isNeeded_123 : decode cX10_isNeeded 123 = .ok (.i2l, 1) := by decide +kernel
theorem dX10_isNeeded_124 : decode cX10_isNeeded 124 = .ok (.lmul, 1) := by decide +kernel
theorem dX10_isNeeded_125 : decode cX10_isNeeded 125 = .ok (.lcmp, 1) := by decide +kernel
theorem dX10_isNeeded_126 : decode cX10_isNeeded 126 = .ok (.ifCond .lt 7, 3) := by decide +kernel
theorem dX10_isNeeded_129 : decode cX10_isNeeded 129 = .ok (.iconst 1, 1) := by decide +kernel
theorem dX10_isNeeded_130 : decode cX10_isNeeded 130 = .ok (.goto 4, 3) := by decide +kernel
theorem dX10_isNeeded_133 : decode cX10_isNeeded 133 = .ok (.iconst 0, 1) := by decide +kernel
theorem dX10_isNeeded_134 : decode cX10_isNeeded 134 = .ok (.istore 10, 2) := by decide +kernel
theorem dX10_isNeeded_136 : decode cX10_isNeeded 136 = .ok (.iload 10, 2) := by decide +kernel
theorem dX10_isNeeded_138 : decode cX10_isNeeded 138 = .ok (.ifCond .ne 7, 3) := by decide +kernel
theorem dX10_isNeeded_141 : decode cX10_isNeeded 141 = .ok (.iconst 1, 1) := by decide +kernel
theorem dX10_isNeeded_142 : decode cX10_isNeeded 142 = .ok (.goto 4, 3) := by decide +kernel
theorem dX10_isNeeded_145 : decode cX10_isNeeded 145 = .ok (.iconst 0, 1) := by decide +kernel
theorem dX10_isNeeded_146 : decode cX10_isNeeded 146 = .ok (.istore_n 2, 1) := by decide +kernel
theorem dX10_isNeeded_147 : decode cX10_isNeeded 147 = .ok (.iinc 3 1, 3) := by decide +kernel
theorem dX10_isNeeded_150 : decode cX10_isNeeded 150 = .ok (.goto (-141), 3) := by decide +kernel
theorem dX10_isNeeded_153 : decode cX10_isNeeded 153 = .ok (.iload_n 2, 1) := by decide +kernel
theorem dX10_isNeeded_154 : decode cX10_isNeeded 154 = .ok (.ireturn, 1) := by decide +kernel
set_option maxRecDepth 20000 in
theorem ggX10_needed_X10_noField : GoodIn wsX10_needed wsX10_noField := goodIn_r _ [6, 7, 8, 9, 5, 10, 11, 12, 13, 14, 15, 40, 41, 42, 43, 44, 45, 46, 47, 48, 49, 50, 51, 52, 53, 54, 55, 56, 57] rfl (by decide +kernel)
set_option maxRecDepth 20000 in
theorem gX10_needed_X10_noField : GoodIn wsX10_needed (wsV RX10 126 RX10 yX10_noField wsX10_noField) := goodIn_app (goodIn_of _ (by decide +kernel)) ggX10_needed_X10_noField
set_option maxRecDepth 20000 in
theorem ggX10_needed_X10_measure : GoodIn wsX10_needed wsX10_measure := goodIn_r _ [19, 20, 7, 8, 9, 5, 10, 11, 12, 21, 22, 23, 24, 25, 26, 27, 28, 29, 30, 31, 32, 33, 34, 13, 14, 15, 40, 41, 42, 43, 44, 45, 46, 47, 48, 49, 50, 51, 52, 53, 54, 55, 56, 57] rfl (by decide +kernel)
set_option maxRecDepth 20000 in
theorem gX10_needed_X10_measure : GoodIn wsX10_needed (wsV RX10 198 RX10 yX10_measure wsX10_measure) := goodIn_app (goodIn_of _ (by decide +kernel)) ggX10_needed_X10_measure
set_option maxRecDepth 20000 in
theorem ggX10_needed_X10_isNeeded : GoodIn wsX10_needed wsX10_isNeeded := goodIn_r _ [38, 25, 11, 20, 39, 7, 8, 9, 5, 10, 12, 40, 41, 42, 43, 44, 45, 46, 47, 48, 49, 50, 51, 52, 53, 54, 55, 56, 57] rfl (by decide +kernel)
set_option maxRecDepth 20000 in
theorem gX10_needed_X10_isNeeded : GoodIn wsX10_needed (wsV RX10 201 RX10 yX10_isNeeded wsX10_isNeeded) := goodIn_app (goodIn_of _ (by decide +kernel)) ggX10_needed_X10_isNeeded
theorem dX10_needed_0 : decode cX10_needed 0 = .ok (.aload_n 0, 1) := by decide +kernel
theorem dX10_needed_1 : decode cX10_needed 1 = .ok (.iconst 0, 1) := by decide +kernel
theorem dX10_needed_2 : decode cX10_needed 2 = .ok (.putfield 52, 3) := by decide +kernel
theorem dX10_needed_5 : decode cX10_needed 5 = .ok (.aload_n 0, 1) := by decide +kernel
theorem dX10_needed_6 : decode cX10_needed 6 = .ok (.iload_n 1, 1) := by decide +kernel
theorem dX10_needed_7 : decode cX10_needed 7 = .ok (.invokevirtual 126, 3) := by decide +kernel
theorem dX10_needed_10 : decode cX10_needed 10 = .ok (.ifCond .eq 7, 3) := by decide +kernel
theorem dX10_needed_13 : decode cX10_needed 13 = .ok (.sipush (-1001), 3) := by decide +kernel
theorem dX10_needed_16 : decode cX10_needed 16 = .ok (.ireturn, 1) := by decide +kernel
theorem dX10_needed_17 : decode cX10_needed 17 = .ok (.aload_n 0, 1) := by decide +kernel
theorem dX10_needed_18 : decode cX10_needed 18 = .ok (.invokevirtual 198, 3) := by decide +kernel
theorem dX10_needed_21 : decode cX10_needed 21 = .ok (.aload_n 0, 1) := by decide +kernel
theorem dX10_needed_22 : decode cX10_needed 22 = .ok (.iload_n 1, 1) := by decide +kernel
theorem dX10_needed_23 : decode cX10_needed 23 = .ok (.invokevirtual 201, 3) := by decide +kernel
theorem dX10_needed_26 : decode cX10_needed 26 = .ok (.ifCond .eq 7, 3) := by decide +kernel
theorem dX10_needed_29 : decode cX10_needed 29 = .ok (.iconst 1, 1) := by decide +kernel
theorem dX10_needed_30 : decode cX10_needed 30 = .ok (.goto 4, 3) := by decide +kernel
theorem dX10_needed_33 : decode cX10_needed 33 = .ok (.iconst 0, 1) := by decide +kernel
theorem dX10_needed_34 : decode cX10_needed 34 = .ok (.ireturn, 1) := by decide +kernel
set_option maxRecDepth 20000 in
theorem ggX10_balls_X10_measure : GoodIn wsX10_balls wsX10_measure := goodIn_r _ [6, 7, 8, 9, 10, 5, 11, 12, 13, 14, 15, 16, 17, 18, 19, 20, 21, 22, 23, 24, 25, 26, 27, 28, 29, 30, 36, 37, 38, 39, 40, 41, 42, 43, 44, 45, 46, 47, 48, 49, 50, 51, 52, 53] rfl (by decide +kernel)
set_option maxRecDepth 20000 in
theorem gX10_balls_X10_measure : GoodIn wsX10_balls (wsV RX10 198 RX10 yX10_measure wsX10_measure) := goodIn_app (goodIn_of _ (by decide +kernel)) ggX10_balls_X10_measure
set_option maxRecDepth 20000 in
theorem ggX10_balls_X10_fields : GoodIn wsX10_balls wsX10_fields := goodIn_r _ [11, 12, 13, 36, 37, 38, 39, 40, 41, 42, 43, 44, 45, 46, 47, 48, 49, 50, 51, 52, 53] rfl (by decide +kernel)
set_option maxRecDepth 20000 in
theorem gX10_balls_X10_fields : GoodIn wsX10_balls (wsV RX10 117 RX10 yX10_fields wsX10_fields) := goodIn_app (goodIn_of _ (by decide +kernel)) ggX10_balls_X10_fields
set_option maxRecDepth 20000 in
theorem ggX10_balls_X10_isNeeded : GoodIn wsX10_balls wsX10_isNeeded := goodIn_r _ [34, 18, 12, 7, 35, 8, 9, 10, 5, 11, 13, 36, 37, 38, 39, 40, 41, 42, 43, 44, 45, 46, 47, 48, 49, 50, 51, 52, 53] rfl (by decide +kernel)
set_option maxRecDepth 20000 in
theorem gX10_balls_X10_isNeeded : GoodIn wsX10_balls (wsV RX10 201 RX10 yX10_isNeeded wsX10_isNeeded) := goodIn_app (goodIn_of _ (by decide +kernel)) ggX10_balls_X10_isNeeded
theorem dX10_balls_0 : decode cX10_balls 0 = .ok (.aload_n 0, 1) := by decide +kernel
theorem dX10_balls_1 : decode cX10_balls 1 = .ok (.iconst 0, 1) := by decide +kernel
theorem dX10_balls_2 : decode cX10_balls 2 = .ok (.putfield 52, 3) := by decide +kernel
theorem dX10_balls_5 : decode cX10_balls 5 = .ok (.aload_n 0, 1) := by decide +kernel
theorem dX10_balls_6 : decode cX10_balls 6 = .ok (.invokevirtual 198, 3) := by decide +kernel
theorem dX10_balls_9 : decode cX10_balls 9 = .ok (.iconst 0, 1) := by decide +kernel
theorem dX10_balls_10 : decode cX10_balls 10 = .ok (.istore_n 1, 1) := by decide +kernel
theorem dX10_balls_11 : decode cX10_balls 11 = .ok (.iconst 0, 1) := by decide +kernel
theorem dX10_balls_12 : decode cX10_balls 12 = .ok (.istore_n 2, 1) := by decide +kernel
theorem dX10_balls_13 : decode cX10_balls 13 = .ok (.iload_n 2, 1) := by decide +kernel
theorem dX10_balls_14 : decode cX10_balls 14 = .ok (.aload_n 0, 1) := by decide +kernel
theorem dX10_balls_15 : decode cX10_balls 15 = .ok (.invokevirtual 117, 3) := by decide +kernel
theorem dX10_balls_18 : decode cX10_balls 18 = .ok (.if_icmp .ge 25, 3) := by decide +kernel
theorem dX10_balls_21 : decode cX10_balls 21 = .ok (.iload_n 1, 1) := by decide +kernel
theorem dX10_balls_22 : decode cX10_balls 22 = .ok (.aload_n 0, 1) := by decide +kernel
theorem dX10_balls_23 : decode cX10_balls 23 = .ok (.iload_n 2, 1) := by decide +kernel
theorem dX10_balls_24 : decode cX10_balls 24 = .ok (.invokevirtual 201, 3) := by decide +kernel
theorem dX10_balls_27 : decode cX10_balls 27 = .ok (.ifCond .eq 7, 3) := by decide +kernel
theorem dX10_balls_30 : decode cX10_balls 30 = .ok (.iconst 1, 1) := by decide +kernel
theorem dX10_balls_31 : decode cX10_balls 31 = .ok (.goto 4, 3) := by decide +kernel
theorem dX10_balls_34 : decode cX10_balls 34 = .ok (.iconst 0, 1) := by decide +kernel
theorem dX10_balls_35 : decode cX10_balls 35 = .ok (.iadd, 1) := by decide +kernel
theorem dX10_balls_36 : decode cX10_balls 36 = .ok (.istore_n 1, 1) := by decide +kernel
theorem dX10_balls_37 : decode cX10_balls 37 = .ok (.iinc 2 1, 3) := by decide +kernel
theorem dX10_balls_40 : decode cX10_balls 40 = .ok (.goto (-27), 3) := by decide +kernel
theorem dX10_balls_43 : decode cX10_balls 43 = .ok (.iload_n 1, 1) := by decide +kernel
theorem dX10_balls_44 : decode cX10_balls 44 = .ok (.ireturn, 1) := by decide +kernel
set_option maxRecDepth 20000 in
theorem ggX10_groups_X10_size : GoodIn wsX10_groups wsX10_size := goodIn_r _ [6] rfl (by decide +kernel)
set_option maxRecDepth 20000 in
theorem gX10_groups_X10_size : GoodIn wsX10_groups (va_wsS RX10 83 yX10_size wsX10_size) := goodIn_app (goodIn_of _ (by decide +kernel)) ggX10_groups_X10_size
theorem dX10_groups_0 : decode cX10_groups 0 = .ok (.iconst 0, 1) := by decide +kernel
theorem dX10_groups_1 : decode cX10_groups 1 = .ok (.istore_n 2, 1) := by decide +kernel
theorem dX10_groups_2 : decode cX10_groups 2 = .ok (.iload_n 2, 1) := by decide +kernel
theorem dX10_groups_3 : decode cX10_groups 3 = .ok (.bipush 9, 2) := by decide +kernel
theorem dX10_groups_5 : decode cX10_groups 5 = .ok (.if_icmp .ge 37, 3) := by decide +kernel
theorem dX10_groups_8 : decode cX10_groups 8 = .ok (.aload_n 0, 1) := by decide +kernel
theorem dX10_groups_9 : decode cX10_groups 9 = .ok (.getfield 49, 3) := by decide +kernel
theorem dX10_groups_12 : decode cX10_groups 12 = .ok (.iload_n 2, 1) := by decide +kernel
theorem dX10_groups_13 : decode cX10_groups 13 = .ok (.iload_n 2, 1) := by decide +kernel
theorem dX10_groups_14 : decode cX10_groups 14 = .ok (.iconst 4, 1) := by decide +kernel
theorem dX10_groups_15 : decode cX10_groups 15 = .ok (.if_icmp .eq 17, 3) := by decide +kernel
theorem dX10_groups_18 : decode cX10_groups 18 = .ok (.aload_n 0, 1) := by decide +kernel
theorem dX10_groups_19 : decode cX10_groups 19 = .ok (.getfield 46, 3) := by decide +kernel
theorem dX10_groups_22 : decode cX10_groups 22 = .ok (.iload_n 2, 1) := by decide +kernel
theorem dX10_groups_23 : decode cX10_groups 23 = .ok (.baload, 1) := by decide +kernel
theorem dX10_groups_24 : decode cX10_groups 24 = .ok (.iload_n 1, 1) := by decide +kernel
theorem dX10_groups_25 : decode cX10_groups 25 = .ok (.if_icmp .ne 7, 3) := by decide +kernel
theorem dX10_groups_28 : decode cX10_groups 28 = .ok (.iload_n 2, 1) := by decide +kernel
theorem dX10_groups_29 : decode cX10_groups 29 = .ok (.goto 6, 3) := by decide +kernel
theorem dX10_groups_32 : decode cX10_groups 32 = .ok (.sipush (-999), 3) := by decide +kernel
theorem dX10_groups_35 : decode cX10_groups 35 = .ok (.iastore, 1) := by decide +kernel
theorem dX10_groups_36 : decode cX10_groups 36 = .ok (.iinc 2 1, 3) := by decide +kernel
theorem dX10_groups_39 : decode cX10_groups 39 = .ok (.goto (-37), 3) := by decide +kernel
theorem dX10_groups_42 : decode cX10_groups 42 = .ok (.iconst 0, 1) := by decide +kernel
theorem dX10_groups_43 : decode cX10_groups 43 = .ok (.istore_n 2, 1) := by decide +kernel
theorem dX10_groups_44 : decode cX10_groups 44 = .ok (.iload_n 2, 1) := by decide +kernel
theorem dX10_groups_45 : decode cX10_groups 45 = .ok (.bipush 9, 2) := by decide +kernel
theorem dX10_groups_47 : decode cX10_groups 47 = .ok (.if_icmp .ge 185, 3) := by decide +kernel
theorem dX10_groups_50 : decode cX10_groups 50 = .ok (.iconst 0, 1) := by decide +kernel
theorem dX10_groups_51 : decode cX10_groups 51 = .ok (.istore_n 3, 1) := by decide +kernel
theorem dX10_groups_52 : decode cX10_groups 52 = .ok (.iload_n 3, 1) := by decide +kernel
theorem dX10_groups_53 : decode cX10_groups 53 = .ok (.bipush 9, 2) := by decide +kernel
theorem dX10_groups_55 : decode cX10_groups 55 = .ok (.if_icmp .ge 171, 3) := by decide +kernel
theorem dX10_groups_58 : decode cX10_groups 58 = .ok (.iconst 0, 1) := by decide +kernel
theorem dX10_groups_59 : decode cX10_groups 59 = .ok (.istore 4, 2) := by decide +kernel
theorem dX10_groups_61 : decode cX10_groups 61 = .ok (.iload 4, 2) := by decide +kernel
theorem dX10_groups_63 : decode cX10_groups 63 = .ok (.bipush 9, 2) := by decide +kernel
theorem dX10_groups_65 : decode cX10_groups 65 = .ok (.if_icmp .ge 155, 3) := by decide +kernel
theorem dX10_groups_68 : decode cX10_groups 68 = .ok (.iload_n 3, 1) := by decide +kernel
theorem dX10_groups_69 : decode cX10_groups 69 = .ok (.iconst 3, 1) := by decide +kernel
theorem dX10_groups_70 : decode cX10_groups 70 = .ok (.irem, 1) := by decide +kernel
theorem dX10_groups_71 : decode cX10_groups 71 = .ok (.iload 4, 2) := by decide +kernel
theorem dX10_groups_73 : decode cX10_groups 73 = .ok (.iconst 3, 1) := by decide +kernel
theorem dX10_groups_74 : decode cX10_groups 74 = .ok (.irem, 1) := by decide +kernel
theorem dX10_groups_75 : decode cX10_groups 75 = .ok (.isub, 1) := by decide +kernel
theorem dX10_groups_76 : decode cX10_groups 76 = .ok (.invokestatic 83, 3) := by decide +kernel
theorem dX10_groups_79 : decode cX10_groups 79 = .ok (.istore 5, 2) := by decide +kernel
theorem dX10_groups_81 : decode cX10_groups 81 = .ok (.iload_n 3, 1) := by decide +kernel
theorem dX10_groups_82 : decode cX10_groups 82 = .ok (.iconst 3, 1) := by decide +kernel
theorem dX10_groups_83 : decode cX10_groups 83 = .ok (.idiv, 1) := by decide +kernel
theorem dX10_groups_84 : decode cX10_groups 84 = .ok (.iload 4, 2) := by decide +kernel
theorem dX10_groups_86 : decode cX10_groups 86 = .ok (.iconst 3, 1) := by decide +kernel
theorem dX10_groups_87 : decode cX10_groups 87 = .ok (.idiv, 1) := by decide +kernel
theorem dX10_groups_88 : decode cX10_groups 88 = .ok (.isub, 1) := by decide +kernel
theorem dX10_groups_89 : decode cX10_groups 89 = .ok (.invokestatic 83, 3) := by decide +kernel
theorem dX10_groups_92 : decode cX10_groups 92 = .ok (.istore 6, 2) := by decide +kernel
theorem dX10_groups_94 : decode cX10_groups 94 = .ok (.iload_n 1, 1) := by decide +kernel
theorem dX10_groups_95 : decode cX10_groups 95 = .ok (.ifCond .eq 23, 3) := by decide +kernel
theorem dX10_groups_98 : decode cX10_groups 98 = .ok (.iload 5, 2) := by decide +kernel
theorem dX10_groups_100 : decode cX10_groups 100 = .ok (.iconst 2, 1) := by decide +kernel
theorem dX10_groups_101 : decode cX10_groups 101 = .ok (.if_icmp .ge 13, 3) := by decide +kernel
theorem dX10_groups_104 : decode cX10_groups 104 = .ok (.iload 6, 2) := by decide +kernel
theorem dX10_groups_106 : decode cX10_groups 106 = .ok (.iconst 2, 1) := by decide +kernel
theorem dX10_groups_107 : decode cX10_groups 107 = .ok (.if_icmp .ge 7, 3) := by decide +kernel
theorem dX10_groups_110 : decode cX10_groups 110 = .ok (.iconst 1, 1) := by decide +kernel
theorem dX10_groups_111 : decode cX10_groups 111 = .ok (.goto 21, 3) := by decide +kernel
theorem dX10_groups_114 : decode cX10_groups 114 = .ok (.iconst 0, 1) := by decide +kernel
theorem dX10_groups_115 : decode cX10_groups 115 = .ok (.goto 17, 3) := by decide +kernel
theorem dX10_groups_118 : decode cX10_groups 118 = .ok (.iload 5, 2) := by decide +kernel
theorem dX10_groups_120 : decode cX10_groups 120 = .ok (.iload 6, 2) := by decide +kernel
theorem dX10_groups_122 : decode cX10_groups 122 = .ok (.iadd, 1) := by decide +kernel
theorem dX10_groups_123 : decode cX10_groups 123 = .ok (.iconst 1, 1) := by decide +kernel
theorem dX10_groups_124 : decode cX10_groups 124 = .ok (.if_icmp .ne 7, 3) := by decide +kernel
theorem dX10_groups_127 : decode cX10_groups 127 = .ok (.iconst 1, 1) := by decide +kernel
theorem dX10_groups_128 : decode cX10_groups 128 = .ok (.goto 4, 3) := by decide +kernel
theorem dX10_groups_131 : decode cX10_groups 131 = .ok (.iconst 0, 1) := by decide +kernel
theorem dX10_groups_132 : decode cX10_groups 132 = .ok (.istore 7, 2) := by decide +kernel
theorem dX10_groups_134 : decode cX10_groups 134 = .ok (.aload_n 0, 1) := by decide +kernel
theorem dX10_groups_135 : decode cX10_groups 135 = .ok (.getfield 49, 3) := by decide +kernel
theorem dX10_groups_138 : decode cX10_groups 138 = .ok (.iload_n 3, 1) := by decide +kernel
theorem dX10_groups_139 : decode cX10_groups 139 = .ok (.iaload, 1) := by decide +kernel
theorem dX10_groups_140 : decode cX10_groups 140 = .ok (.sipush (-999), 3) := by decide +kernel
theorem dX10_groups_143 : decode cX10_groups 143 = .ok (.if_icmp .eq 25, 3) := by decide +kernel
theorem dX10_groups_146 : decode cX10_groups 146 = .ok (.aload_n 0, 1) := by decide +kernel
theorem dX10_groups_147 : decode cX10_groups 147 = .ok (.getfield 49, 3) := by decide +kernel
theorem dX10_groups_150 : decode cX10_groups 150 = .ok (.iload 4, 2) := by decide +kernel
theorem dX10_groups_152 : decode cX10_groups 152 = .ok (.iaload, 1) := by decide +kernel
theorem dX10_groups_153 : decode cX10_groups 153 = .ok (.sipush (-999), 3) := by decide +kernel
theorem dX10_groups_156 : decode cX10_groups 156 = .ok (.if_icmp .eq 12, 3) := by decide +kernel
theorem dX10_groups_159 : decode cX10_groups 159 = .ok (.iload 7, 2) := by decide +kernel
theorem dX10_groups_161 : decode cX10_groups 161 = .ok (.ifCond .eq 7, 3) := by decide +kernel
theorem dX10_groups_164 : decode cX10_groups 164 = .ok (.iconst 1, 1) := by decide +kernel
theorem dX10_groups_165 : decode cX10_groups 165 = .ok (.goto 4, 3) := by decide +kernel
theorem dX10_groups_168 : decode cX10_groups 168 = .ok (.iconst 0, 1) := by decide +kernel
theorem dX10_groups_169 : decode cX10_groups 169 = .ok (.istore 8, 2) := by decide +kernel
theorem dX10_groups_171 : decode cX10_groups 171 = .ok (.aload_n 0, 1) := by decide +kernel
theorem dX10_groups_172 : decode cX10_groups 172 = .ok (.getfield 49, 3) := by decide +kernel
theorem dX10_groups_175 : decode cX10_groups 175 = .ok (.iload_n 3, 1) := by decide +kernel
theorem dX10_groups_176 : decode cX10_groups 176 = .ok (.iload 8, 2) := by decide +kernel
theorem dX10_groups_178 : decode cX10_groups 178 = .ok (.ifCond .eq 29, 3) := by decide +kernel
theorem dX10_groups_181 : decode cX10_groups 181 = .ok (.aload_n 0, 1) := by decide +kernel
theorem dX10_groups_182 : decode cX10_groups 182 = .ok (.getfield 49, 3) := by decide +kernel
theorem dX10_groups_185 : decode cX10_groups 185 = .ok (.iload 4, 2) := by decide +kernel
theorem dX10_groups_187 : decode cX10_groups 187 = .ok (.iaload, 1) := by decide +kernel
theorem dX10_groups_188 : decode cX10_groups 188 = .ok (.aload_n 0, 1) := by decide +kernel
theorem dX10_groups_189 : decode cX10_groups 189 = .ok (.getfield 49, 3) := by decide +kernel
theorem dX10_groups_192 : decode cX10_groups 192 = .ok (.iload_n 3, 1) := by decide +kernel
theorem dX10_groups_193 : decode cX10_groups 193 = .ok (.iaload, 1) := by decide +kernel
theorem dX10_groups_194 : decode cX10_groups 194 = .ok (.if_icmp .ge 13, 3) := by decide +kernel
theorem dX10_groups_197 : decode cX10_groups 197 = .ok (.aload_n 0, 1) := by decide +kernel
theorem dX10_groups_198 : decode cX10_groups 198 = .ok (.getfield 49, 3) := by decide +kernel
theorem dX10_groups_201 : decode cX10_groups 201 = .ok (.iload 4, 2) := by decide +kernel
theorem dX10_groups_203 : decode cX10_groups 203 = .ok (.iaload, 1) := by decide +kernel
theorem dX10_groups_204 : decode cX10_groups 204 = .ok (.goto 9, 3) := by decide +kernel
theorem dX10_groups_207 : decode cX10_groups 207 = .ok (.aload_n 0, 1) := by decide +kernel
theorem dX10_groups_208 : decode cX10_groups 208 = .ok (.getfield 49, 3) := by decide +kernel
theorem dX10_groups_211 : decode cX10_groups 211 = .ok (.iload_n 3, 1) := by decide +kernel
theorem dX10_groups_212 : decode cX10_groups 212 = .ok (.iaload, 1) := by decide +kernel
theorem dX10_groups_213 : decode cX10_groups 213 = .ok (.iastore, 1) := by decide +kernel
theorem dX10_groups_214 : decode cX10_groups 214 = .ok (.iinc 4 1, 3) := by decide +kernel
theorem dX10_groups_217 : decode cX10_groups 217 = .ok (.goto (-156), 3) := by decide +kernel
theorem dX10_groups_220 : decode cX10_groups 220 = .ok (.iinc 3 1, 3) := by decide +kernel
theorem dX10_groups_223 : decode cX10_groups 223 = .ok (.goto (-171), 3) := by decide +kernel
theorem dX10_groups_226 : decode cX10_groups 226 = .ok (.iinc 2 1, 3) := by decide +kernel
theorem dX10_groups_229 : decode cX10_groups 229 = .ok (.goto (-185), 3) := by decide +kernel
theorem dX10_groups_232 : decode cX10_groups 232 = .ok (.iconst 0, 1) := by decide +kernel
theorem dX10_groups_233 : decode cX10_groups 233 = .ok (.istore_n 2, 1) := by decide +kernel
theorem dX10_groups_234 : decode cX10_groups 234 = .ok (.iconst 0, 1) := by decide +kernel
theorem dX10_groups_235 : decode cX10_groups 235 = .ok (.istore_n 3, 1) := by decide +kernel
theorem dX10_groups_236 : decode cX10_groups 236 = .ok (.iload_n 3, 1) := by decide +kernel
theorem dX10_groups_237 : decode cX10_groups 237 = .ok (.bipush 9, 2) := by decide +kernel
theorem dX10_groups_239 : decode cX10_groups 239 = .ok (.if_icmp .ge 74, 3) := by decide +kernel
theorem dX10_groups_242 : decode cX10_groups 242 = .ok (.iload_n 1, 1) := by decide +kernel
theorem dX10_groups_243 : decode cX10_groups 243 = .ok (.istore 4, 2) := by decide +kernel
theorem dX10_groups_245 : decode cX10_groups 245 = .ok (.iconst 1, 1) := by decide +kernel
theorem dX10_groups_246 : decode cX10_groups 246 = .ok (.istore 5, 2) := by decide +kernel
theorem dX10_groups_248 : decode cX10_groups 248 = .ok (.iload 5, 2) := by decide +kernel
theorem dX10_groups_250 : decode cX10_groups 250 = .ok (.bipush 9, 2) := by decide +kernel
theorem dX10_groups_252 : decode cX10_groups 252 = .ok (.if_icmp .ge 32, 3) := by decide +kernel
theorem dX10_groups_255 : decode cX10_groups 255 = .ok (.iload 4, 2) := by decide +kernel
theorem dX10_groups_257 : decode cX10_groups 257 = .ok (.ifCond .ne 14, 3) := by decide +kernel
theorem dX10_groups_260 : decode cX10_groups 260 = .ok (.aload_n 0, 1) := by decide +kernel
theorem dX10_groups_261 : decode cX10_groups 261 = .ok (.getfield 49, 3) := by decide +kernel
theorem dX10_groups_264 : decode cX10_groups 264 = .ok (.iload 5, 2) := by decide +kernel
theorem dX10_groups_266 : decode cX10_groups 266 = .ok (.iaload, 1) := by decide +kernel
theorem dX10_groups_267 : decode cX10_groups 267 = .ok (.iload_n 3, 1) := by decide +kernel
theorem dX10_groups_268 : decode cX10_groups 268 = .ok (.if_icmp .ne 7, 3) := by decide +kernel
theorem dX10_groups_271 : decode cX10_groups 271 = .ok (.iconst 1, 1) := by decide +kernel
theorem dX10_groups_272 : decode cX10_groups 272 = .ok (.goto 4, 3) := by decide +kernel
theorem dX10_groups_275 : decode cX10_groups 275 = .ok (.iconst 0, 1) := by decide +kernel
theorem dX10_groups_276 : decode cX10_groups 276 = .ok (.istore 4, 2) := by decide +kernel
theorem dX10_groups_278 : decode cX10_groups 278 = .ok (.iinc 5 2, 3) := by decide +kernel
theorem dX10_groups_281 : decode cX10_groups 281 = .ok (.goto (-33), 3) := by decide +kernel
theorem dX10_groups_284 : decode cX10_groups 284 = .ok (.iload_n 2, 1) := by decide +kernel
theorem dX10_groups_285 : decode cX10_groups 285 = .ok (.aload_n 0, 1) := by decide +kernel
theorem dX10_groups_286 : decode cX10_groups 286 = .ok (.getfield 49, 3) := by decide +kernel
theorem dX10_groups_289 : decode cX10_groups 289 = .ok (.iload_n 3, 1) := by decide +kernel
theorem dX10_groups_290 : decode cX10_groups 290 = .ok (.iaload, 1) := by decide +kernel
theorem dX10_groups_291 : decode cX10_groups 291 = .ok (.iload_n 3, 1) := by decide +kernel
theorem dX10_groups_292 : decode cX10_groups 292 = .ok (.if_icmp .ne 12, 3) := by decide +kernel
theorem dX10_groups_295 : decode cX10_groups 295 = .ok (.iload 4, 2) := by decide +kernel
theorem dX10_groups_297 : decode cX10_groups 297 = .ok (.ifCond .eq 7, 3) := by decide +kernel
theorem dX10_groups_300 : decode cX10_groups 300 = .ok (.iconst 1, 1) := by decide +kernel
theorem dX10_groups_301 : decode cX10_groups 301 = .ok (.goto 4, 3) := by decide +kernel
theorem dX10_groups_304 : decode cX10_groups 304 = .ok (.iconst 0, 1) := by decide +kernel
theorem dX10_groups_305 : decode cX10_groups 305 = .ok (.iadd, 1) := by decide +kernel
theorem dX10_groups_306 : decode cX10_groups 306 = .ok (.istore_n 2, 1) := by decide +kernel
theorem dX10_groups_307 : decode cX10_groups 307 = .ok (.iinc 3 1, 3) := by decide +kernel
theorem dX10_groups_310 : decode cX10_groups 310 = .ok (.goto (-74), 3) := by decide +kernel
theorem dX10_groups_313 : decode cX10_groups 313 = .ok (.iload_n 2, 1) := by decide +kernel
theorem dX10_groups_314 : decode cX10_groups 314 = .ok (.ireturn, 1) := by decide +kernel
set_option maxRecDepth 20000 in
theorem ggX10_lookAbout_X10_isOf : GoodIn wsX10_lookAbout wsX10_isOf := goodIn_r _ [7, 8, 2, 9, 10, 11, 6, 12, 13, 14, 15, 16, 17, 18, 19, 20, 21, 22, 23, 24, 25, 26, 27, 28, 29, 30, 31, 32, 33, 34] rfl (by decide +kernel)
set_option maxRecDepth 20000 in
theorem gX10_lookAbout_X10_isOf : GoodIn wsX10_lookAbout (wsV RX10 148 RX10 yX10_isOf wsX10_isOf) := goodIn_app (goodIn_of _ (by decide +kernel)) ggX10_lookAbout_X10_isOf
theorem dX10_lookAbout_0 : decode cX10_lookAbout 0 = .ok (.iconst 0, 1) := by decide +kernel
theorem dX10_lookAbout_1 : decode cX10_lookAbout 1 = .ok (.istore_n 2, 1) := by decide +kernel
theorem dX10_lookAbout_2 : decode cX10_lookAbout 2 = .ok (.iconst 0, 1) := by decide +kernel
theorem dX10_lookAbout_3 : decode cX10_lookAbout 3 = .ok (.istore_n 3, 1) := by decide +kernel
theorem dX10_lookAbout_4 : decode cX10_lookAbout 4 = .ok (.iload_n 3, 1) := by decide +kernel
theorem dX10_lookAbout_5 : decode cX10_lookAbout 5 = .ok (.bipush 9, 2) := by decide +kernel
theorem dX10_lookAbout_7 : decode cX10_lookAbout 7 = .ok (.if_icmp .ge 65, 3) := by decide +kernel
theorem dX10_lookAbout_10 : decode cX10_lookAbout 10 = .ok (.aload_n 0, 1) := by decide +kernel
theorem dX10_lookAbout_11 : decode cX10_lookAbout 11 = .ok (.getfield 46, 3) := by decide +kernel
theorem dX10_lookAbout_14 : decode cX10_lookAbout 14 = .ok (.iload_n 3, 1) := by decide +kernel
theorem dX10_lookAbout_15 : decode cX10_lookAbout 15 = .ok (.aload_n 0, 1) := by decide +kernel
theorem dX10_lookAbout_16 : decode cX10_lookAbout 16 = .ok (.iload_n 1, 1) := by decide +kernel
theorem dX10_lookAbout_17 : decode cX10_lookAbout 17 = .ok (.aload_n 0, 1) := by decide +kernel
theorem dX10_lookAbout_18 : decode cX10_lookAbout 18 = .ok (.getfield 20, 3) := by decide +kernel
theorem dX10_lookAbout_21 : decode cX10_lookAbout 21 = .ok (.irem, 1) := by decide +kernel
theorem dX10_lookAbout_22 : decode cX10_lookAbout 22 = .ok (.iload_n 3, 1) := by decide +kernel
theorem dX10_lookAbout_23 : decode cX10_lookAbout 23 = .ok (.iconst 3, 1) := by decide +kernel
theorem dX10_lookAbout_24 : decode cX10_lookAbout 24 = .ok (.irem, 1) := by decide +kernel
theorem dX10_lookAbout_25 : decode cX10_lookAbout 25 = .ok (.iadd, 1) := by decide +kernel
theorem dX10_lookAbout_26 : decode cX10_lookAbout 26 = .ok (.iconst 1, 1) := by decide +kernel
theorem dX10_lookAbout_27 : decode cX10_lookAbout 27 = .ok (.isub, 1) := by decide +kernel
theorem dX10_lookAbout_28 : decode cX10_lookAbout 28 = .ok (.iload_n 1, 1) := by decide +kernel
theorem dX10_lookAbout_29 : decode cX10_lookAbout 29 = .ok (.aload_n 0, 1) := by decide +kernel
theorem dX10_lookAbout_30 : decode cX10_lookAbout 30 = .ok (.getfield 20, 3) := by decide +kernel
theorem dX10_lookAbout_33 : decode cX10_lookAbout 33 = .ok (.idiv, 1) := by decide +kernel
theorem dX10_lookAbout_34 : decode cX10_lookAbout 34 = .ok (.iload_n 3, 1) := by decide +kernel
theorem dX10_lookAbout_35 : decode cX10_lookAbout 35 = .ok (.iconst 3, 1) := by decide +kernel
theorem dX10_lookAbout_36 : decode cX10_lookAbout 36 = .ok (.idiv, 1) := by decide +kernel
theorem dX10_lookAbout_37 : decode cX10_lookAbout 37 = .ok (.iadd, 1) := by decide +kernel
theorem dX10_lookAbout_38 : decode cX10_lookAbout 38 = .ok (.iconst 1, 1) := by decide +kernel
theorem dX10_lookAbout_39 : decode cX10_lookAbout 39 = .ok (.isub, 1) := by decide +kernel
theorem dX10_lookAbout_40 : decode cX10_lookAbout 40 = .ok (.invokevirtual 148, 3) := by decide +kernel
theorem dX10_lookAbout_43 : decode cX10_lookAbout 43 = .ok (.bastore, 1) := by decide +kernel
theorem dX10_lookAbout_44 : decode cX10_lookAbout 44 = .ok (.iload_n 2, 1) := by decide +kernel
theorem dX10_lookAbout_45 : decode cX10_lookAbout 45 = .ok (.iload_n 3, 1) := by decide +kernel
theorem dX10_lookAbout_46 : decode cX10_lookAbout 46 = .ok (.iconst 4, 1) := by decide +kernel
theorem dX10_lookAbout_47 : decode cX10_lookAbout 47 = .ok (.if_icmp .eq 16, 3) := by decide +kernel
theorem dX10_lookAbout_50 : decode cX10_lookAbout 50 = .ok (.aload_n 0, 1) := by decide +kernel
theorem dX10_lookAbout_51 : decode cX10_lookAbout 51 = .ok (.getfield 46, 3) := by decide +kernel
theorem dX10_lookAbout_54 : decode cX10_lookAbout 54 = .ok (.iload_n 3, 1) := by decide +kernel
theorem dX10_lookAbout_55 : decode cX10_lookAbout 55 = .ok (.baload, 1) := by decide +kernel
theorem dX10_lookAbout_56 : decode cX10_lookAbout 56 = .ok (.ifCond .eq 7, 3) := by decide +kernel
theorem dX10_lookAbout_59 : decode cX10_lookAbout 59 = .ok (.iconst 1, 1) := by decide +kernel
theorem dX10_lookAbout_60 : decode cX10_lookAbout 60 = .ok (.goto 4, 3) := by decide +kernel
theorem dX10_lookAbout_63 : decode cX10_lookAbout 63 = .ok (.iconst 0, 1) := by decide +kernel
theorem dX10_lookAbout_64 : decode cX10_lookAbout 64 = .ok (.iadd, 1) := by decide +kernel
theorem dX10_lookAbout_65 : decode cX10_lookAbout 65 = .ok (.istore_n 2, 1) := by decide +kernel
theorem dX10_lookAbout_66 : decode cX10_lookAbout 66 = .ok (.iinc 3 1, 3) := by decide +kernel
theorem dX10_lookAbout_69 : decode cX10_lookAbout 69 = .ok (.goto (-65), 3) := by decide +kernel
theorem dX10_lookAbout_72 : decode cX10_lookAbout 72 = .ok (.iload_n 2, 1) := by decide +kernel
theorem dX10_lookAbout_73 : decode cX10_lookAbout 73 = .ok (.ireturn, 1) := by decide +kernel
set_option maxRecDepth 20000 in
theorem ggX10_isLoose_X10_lookAbout : GoodIn wsX10_isLoose wsX10_lookAbout := goodIn_r _ [6, 7, 8, 9, 10, 11, 5, 12, 1, 13, 14, 15, 16, 17, 18, 19, 20, 29, 30, 31, 32, 33, 34, 35, 36, 37, 38, 39, 40, 41, 42, 43, 44, 45, 46] rfl (by decide +kernel)
set_option maxRecDepth 20000 in
theorem gX10_isLoose_X10_lookAbout : GoodIn wsX10_isLoose (wsV RX10 204 RX10 yX10_lookAbout wsX10_lookAbout) := goodIn_app (goodIn_of _ (by decide +kernel)) ggX10_isLoose_X10_lookAbout
set_option maxRecDepth 20000 in
theorem ggX10_isLoose_X10_groups : GoodIn wsX10_isLoose wsX10_groups := goodIn_r _ [24, 25, 7, 26, 27, 5, 28, 29, 30, 31, 32, 33, 34, 35, 36, 37, 38, 39, 40, 41, 42, 43, 44, 45, 46] rfl (by decide +kernel)
set_option maxRecDepth 20000 in
theorem gX10_isLoose_X10_groups : GoodIn wsX10_isLoose (wsV RX10 207 RX10 yX10_groups wsX10_groups) := goodIn_app (goodIn_of _ (by decide +kernel)) ggX10_isLoose_X10_groups
theorem dX10_isLoose_0 : decode cX10_isLoose 0 = .ok (.aload_n 0, 1) := by decide +kernel
theorem dX10_isLoose_1 : decode cX10_isLoose 1 = .ok (.iload_n 1, 1) := by decide +kernel
theorem dX10_isLoose_2 : decode cX10_isLoose 2 = .ok (.invokevirtual 204, 3) := by decide +kernel
theorem dX10_isLoose_5 : decode cX10_isLoose 5 = .ok (.pop, 1) := by decide +kernel
theorem dX10_isLoose_6 : decode cX10_isLoose 6 = .ok (.aload_n 0, 1) := by decide +kernel
theorem dX10_isLoose_7 : decode cX10_isLoose 7 = .ok (.getfield 27, 3) := by decide +kernel
theorem dX10_isLoose_10 : decode cX10_isLoose 10 = .ok (.iload_n 1, 1) := by decide +kernel
theorem dX10_isLoose_11 : decode cX10_isLoose 11 = .ok (.baload, 1) := by decide +kernel
theorem dX10_isLoose_12 : decode cX10_isLoose 12 = .ok (.ifCond .eq 25, 3) := by decide +kernel
theorem dX10_isLoose_15 : decode cX10_isLoose 15 = .ok (.aload_n 0, 1) := by decide +kernel
theorem dX10_isLoose_16 : decode cX10_isLoose 16 = .ok (.iconst 1, 1) := by decide +kernel
theorem dX10_isLoose_17 : decode cX10_isLoose 17 = .ok (.invokevirtual 207, 3) := by decide +kernel
theorem dX10_isLoose_20 : decode cX10_isLoose 20 = .ok (.iconst 1, 1) := by decide +kernel
theorem dX10_isLoose_21 : decode cX10_isLoose 21 = .ok (.if_icmp .ne 16, 3) := by decide +kernel
theorem dX10_isLoose_24 : decode cX10_isLoose 24 = .ok (.aload_n 0, 1) := by decide +kernel
theorem dX10_isLoose_25 : decode cX10_isLoose 25 = .ok (.iconst 0, 1) := by decide +kernel
theorem dX10_isLoose_26 : decode cX10_isLoose 26 = .ok (.invokevirtual 207, 3) := by decide +kernel
theorem dX10_isLoose_29 : decode cX10_isLoose 29 = .ok (.iconst 1, 1) := by decide +kernel
theorem dX10_isLoose_30 : decode cX10_isLoose 30 = .ok (.if_icmp .ne 7, 3) := by decide +kernel
theorem dX10_isLoose_33 : decode cX10_isLoose 33 = .ok (.iconst 1, 1) := by decide +kernel
theorem dX10_isLoose_34 : decode cX10_isLoose 34 = .ok (.goto 4, 3) := by decide +kernel
theorem dX10_isLoose_37 : decode cX10_isLoose 37 = .ok (.iconst 0, 1) := by decide +kernel
theorem dX10_isLoose_38 : decode cX10_isLoose 38 = .ok (.ireturn, 1) := by decide +kernel
set_option maxRecDepth 20000 in
theorem ggX10_loose_X10_noField : GoodIn wsX10_loose wsX10_noField := goodIn_r _ [6, 7, 8, 9, 5, 10, 11, 12, 13, 14, 15, 42, 43, 44, 45, 46, 47, 48, 49, 50, 51, 52, 53, 54, 55, 56, 57, 58, 59] rfl (by decide +kernel)
set_option maxRecDepth 20000 in
theorem gX10_loose_X10_noField : GoodIn wsX10_loose (wsV RX10 126 RX10 yX10_noField wsX10_noField) := goodIn_app (goodIn_of _ (by decide +kernel)) ggX10_loose_X10_noField
set_option maxRecDepth 20000 in
theorem ggX10_loose_X10_isLoose : GoodIn wsX10_loose wsX10_isLoose := goodIn_r _ [19, 20, 21, 22, 23, 5, 24, 25, 11, 26, 27, 28, 29, 30, 31, 32, 33, 12, 13, 14, 15, 34, 35, 36, 37, 38, 39, 40, 41, 42, 43, 44, 45, 46, 47, 48, 49, 50, 51, 52, 53, 54, 55, 56, 57, 58, 59] rfl (by decide +kernel)
set_option maxRecDepth 20000 in
theorem gX10_loose_X10_isLoose : GoodIn wsX10_loose (wsV RX10 211 RX10 yX10_isLoose wsX10_isLoose) := goodIn_app (goodIn_of _ (by decide +kernel)) ggX10_loose_X10_isLoose
theorem dX10_loose_0 : decode cX10_loose 0 = .ok (.aload_n 0, 1) := by decide +kernel
theorem dX10_loose_1 : decode cX10_loose 1 = .ok (.iconst 0, 1) := by decide +kernel
theorem dX10_loose_2 : decode cX10_loose 2 = .ok (.putfield 52, 3) := by decide +kernel
theorem dX10_loose_5 : decode cX10_loose 5 = .ok (.aload_n 0, 1) := by decide +kernel
theorem dX10_loose_6 : decode cX10_loose 6 = .ok (.iload_n 1, 1) := by decide +kernel
theorem dX10_loose_7 : decode cX10_loose 7 = .ok (.invokevirtual 126, 3) := by decide +kernel
theorem dX10_loose_10 : decode cX10_loose 10 = .ok (.ifCond .eq 9, 3) := by decide +kernel
theorem dX10_loose_13 : decode cX10_loose 13 = .ok (.sipush (-1001), 3) := by decide +kernel
theorem dX10_loose_16 : decode cX10_loose 16 = .ok (.goto 16, 3) := by decide +kernel
theorem dX10_loose_19 : decode cX10_loose 19 = .ok (.aload_n 0, 1) := by decide +kernel
theorem dX10_loose_20 : decode cX10_loose 20 = .ok (.iload_n 1, 1) := by decide +kernel
theorem dX10_loose_21 : decode cX10_loose 21 = .ok (.invokevirtual 211, 3) := by decide +kernel
theorem dX10_loose_24 : decode cX10_loose 24 = .ok (.ifCond .eq 7, 3) := by decide +kernel
theorem dX10_loose_27 : decode cX10_loose 27 = .ok (.iconst 1, 1) := by decide +kernel
theorem dX10_loose_28 : decode cX10_loose 28 = .ok (.goto 4, 3) := by decide +kernel
theorem dX10_loose_31 : decode cX10_loose 31 = .ok (.iconst 0, 1) := by decide +kernel
theorem dX10_loose_32 : decode cX10_loose 32 = .ok (.ireturn, 1) := by decide +kernel
set_option maxRecDepth 20000 in
theorem ggX10_thinOnce_X10_fields : GoodIn wsX10_thinOnce wsX10_fields := goodIn_r _ [8, 1, 9, 38, 39, 40, 41, 42, 43, 44, 45, 46, 47, 48, 49, 50, 51, 52, 53, 54, 55] rfl (by decide +kernel)
set_option maxRecDepth 20000 in
theorem gX10_thinOnce_X10_fields : GoodIn wsX10_thinOnce (wsV RX10 117 RX10 yX10_fields wsX10_fields) := goodIn_app (goodIn_of _ (by decide +kernel)) ggX10_thinOnce_X10_fields
set_option maxRecDepth 20000 in
theorem ggX10_thinOnce_X10_isOf : GoodIn wsX10_thinOnce wsX10_isOf := goodIn_r _ [13, 3, 1, 14, 15, 16, 7, 17, 9, 18, 19, 20, 38, 39, 40, 41, 42, 43, 44, 45, 46, 47, 48, 49, 50, 51, 52, 53, 54, 55] rfl (by decide +kernel)
set_option maxRecDepth 20000 in
theorem gX10_thinOnce_X10_isOf : GoodIn wsX10_thinOnce (wsV RX10 148 RX10 yX10_isOf wsX10_isOf) := goodIn_app (goodIn_of _ (by decide +kernel)) ggX10_thinOnce_X10_isOf
set_option maxRecDepth 20000 in
theorem ggX10_thinOnce_X10_isLoose : GoodIn wsX10_thinOnce wsX10_isLoose := goodIn_r _ [24, 3, 25, 26, 27, 7, 28, 29, 1, 10, 11, 12, 13, 14, 15, 16, 17, 9, 18, 19, 20, 30, 31, 32, 33, 34, 35, 36, 37, 38, 39, 40, 41, 42, 43, 44, 45, 46, 47, 48, 49, 50, 51, 52, 53, 54, 55] rfl (by decide +kernel)
set_option maxRecDepth 20000 in
theorem gX10_thinOnce_X10_isLoose : GoodIn wsX10_thinOnce (wsV RX10 211 RX10 yX10_isLoose wsX10_isLoose) := goodIn_app (goodIn_of _ (by decide +kernel)) ggX10_thinOnce_X10_isLoose
set_option maxRecDepth 20000 in
theorem ggX10_thinOnce_X10_lookAbout : GoodIn wsX10_thinOnce wsX10_lookAbout := goodIn_r _ [28, 29, 1, 10, 11, 12, 7, 13, 3, 14, 15, 16, 17, 9, 18, 19, 20, 38, 39, 40, 41, 42, 43, 44, 45, 46, 47, 48, 49, 50, 51, 52, 53, 54, 55] rfl (by decide +kernel)
set_option maxRecDepth 20000 in
theorem gX10_thinOnce_X10_lookAbout : GoodIn wsX10_thinOnce (wsV RX10 204 RX10 yX10_lookAbout wsX10_lookAbout) := goodIn_app (goodIn_of _ (by decide +kernel)) ggX10_thinOnce_X10_lookAbout
theorem dX10_thinOnce_0 : decode cX10_thinOnce 0 = .ok (.iconst 0, 1) := by decide +kernel
theorem dX10_thinOnce_1 : decode cX10_thinOnce 1 = .ok (.istore_n 1, 1) := by decide +kernel
theorem dX10_thinOnce_2 : decode cX10_thinOnce 2 = .ok (.iload_n 1, 1) := by decide +kernel
theorem dX10_thinOnce_3 : decode cX10_thinOnce 3 = .ok (.aload_n 0, 1) := by decide +kernel
theorem dX10_thinOnce_4 : decode cX10_thinOnce 4 = .ok (.invokevirtual 117, 3) := by decide +kernel
theorem dX10_thinOnce_7 : decode cX10_thinOnce 7 = .ok (.if_icmp .ge 87, 3) := by decide +kernel
theorem dX10_thinOnce_10 : decode cX10_thinOnce 10 = .ok (.iload_n 1, 1) := by decide +kernel
theorem dX10_thinOnce_11 : decode cX10_thinOnce 11 = .ok (.aload_n 0, 1) := by decide +kernel
theorem dX10_thinOnce_12 : decode cX10_thinOnce 12 = .ok (.getfield 20, 3) := by decide +kernel
theorem dX10_thinOnce_15 : decode cX10_thinOnce 15 = .ok (.irem, 1) := by decide +kernel
theorem dX10_thinOnce_16 : decode cX10_thinOnce 16 = .ok (.istore_n 2, 1) := by decide +kernel
theorem dX10_thinOnce_17 : decode cX10_thinOnce 17 = .ok (.iload_n 1, 1) := by decide +kernel
theorem dX10_thinOnce_18 : decode cX10_thinOnce 18 = .ok (.aload_n 0, 1) := by decide +kernel
theorem dX10_thinOnce_19 : decode cX10_thinOnce 19 = .ok (.getfield 20, 3) := by decide +kernel
theorem dX10_thinOnce_22 : decode cX10_thinOnce 22 = .ok (.idiv, 1) := by decide +kernel
theorem dX10_thinOnce_23 : decode cX10_thinOnce 23 = .ok (.istore_n 3, 1) := by decide +kernel
theorem dX10_thinOnce_24 : decode cX10_thinOnce 24 = .ok (.aload_n 0, 1) := by decide +kernel
theorem dX10_thinOnce_25 : decode cX10_thinOnce 25 = .ok (.getfield 40, 3) := by decide +kernel
theorem dX10_thinOnce_28 : decode cX10_thinOnce 28 = .ok (.iload_n 1, 1) := by decide +kernel
theorem dX10_thinOnce_29 : decode cX10_thinOnce 29 = .ok (.aload_n 0, 1) := by decide +kernel
theorem dX10_thinOnce_30 : decode cX10_thinOnce 30 = .ok (.getfield 27, 3) := by decide +kernel
theorem dX10_thinOnce_33 : decode cX10_thinOnce 33 = .ok (.iload_n 1, 1) := by decide +kernel
theorem dX10_thinOnce_34 : decode cX10_thinOnce 34 = .ok (.baload, 1) := by decide +kernel
theorem dX10_thinOnce_35 : decode cX10_thinOnce 35 = .ok (.ifCond .eq 51, 3) := by decide +kernel
theorem dX10_thinOnce_38 : decode cX10_thinOnce 38 = .ok (.aload_n 0, 1) := by decide +kernel
theorem dX10_thinOnce_39 : decode cX10_thinOnce 39 = .ok (.iload_n 2, 1) := by decide +kernel
theorem dX10_thinOnce_40 : decode cX10_thinOnce 40 = .ok (.iconst 1, 1) := by decide +kernel
theorem dX10_thinOnce_41 : decode cX10_thinOnce 41 = .ok (.isub, 1) := by decide +kernel
theorem dX10_thinOnce_42 : decode cX10_thinOnce 42 = .ok (.iload_n 3, 1) := by decide +kernel
theorem dX10_thinOnce_43 : decode cX10_thinOnce 43 = .ok (.invokevirtual 148, 3) := by decide +kernel
theorem dX10_thinOnce_46 : decode cX10_thinOnce 46 = .ok (.ifCond .eq 36, 3) := by decide +kernel
theorem dX10_thinOnce_49 : decode cX10_thinOnce 49 = .ok (.aload_n 0, 1) := by decide +kernel
theorem dX10_thinOnce_50 : decode cX10_thinOnce 50 = .ok (.iload_n 2, 1) := by decide +kernel
theorem dX10_thinOnce_51 : decode cX10_thinOnce 51 = .ok (.iconst 1, 1) := by decide +kernel
theorem dX10_thinOnce_52 : decode cX10_thinOnce 52 = .ok (.iadd, 1) := by decide +kernel
theorem dX10_thinOnce_53 : decode cX10_thinOnce 53 = .ok (.iload_n 3, 1) := by decide +kernel
theorem dX10_thinOnce_54 : decode cX10_thinOnce 54 = .ok (.invokevirtual 148, 3) := by decide +kernel
theorem dX10_thinOnce_57 : decode cX10_thinOnce 57 = .ok (.ifCond .eq 25, 3) := by decide +kernel
theorem dX10_thinOnce_60 : decode cX10_thinOnce 60 = .ok (.aload_n 0, 1) := by decide +kernel
theorem dX10_thinOnce_61 : decode cX10_thinOnce 61 = .ok (.iload_n 2, 1) := by decide +kernel
theorem dX10_thinOnce_62 : decode cX10_thinOnce 62 = .ok (.iload_n 3, 1) := by decide +kernel
theorem dX10_thinOnce_63 : decode cX10_thinOnce 63 = .ok (.iconst 1, 1) := by decide +kernel
theorem dX10_thinOnce_64 : decode cX10_thinOnce 64 = .ok (.isub, 1) := by decide +kernel
theorem dX10_thinOnce_65 : decode cX10_thinOnce 65 = .ok (.invokevirtual 148, 3) := by decide +kernel
theorem dX10_thinOnce_68 : decode cX10_thinOnce 68 = .ok (.ifCond .eq 14, 3) := by decide +kernel
theorem dX10_thinOnce_71 : decode cX10_thinOnce 71 = .ok (.aload_n 0, 1) := by decide +kernel
theorem dX10_thinOnce_72 : decode cX10_thinOnce 72 = .ok (.iload_n 2, 1) := by decide +kernel
theorem dX10_thinOnce_73 : decode cX10_thinOnce 73 = .ok (.iload_n 3, 1) := by decide +kernel
theorem dX10_thinOnce_74 : decode cX10_thinOnce 74 = .ok (.iconst 1, 1) := by decide +kernel
theorem dX10_thinOnce_75 : decode cX10_thinOnce 75 = .ok (.iadd, 1) := by decide +kernel
theorem dX10_thinOnce_76 : decode cX10_thinOnce 76 = .ok (.invokevirtual 148, 3) := by decide +kernel
theorem dX10_thinOnce_79 : decode cX10_thinOnce 79 = .ok (.ifCond .ne 7, 3) := by decide +kernel
theorem dX10_thinOnce_82 : decode cX10_thinOnce 82 = .ok (.iconst 1, 1) := by decide +kernel
theorem dX10_thinOnce_83 : decode cX10_thinOnce 83 = .ok (.goto 4, 3) := by decide +kernel
theorem dX10_thinOnce_86 : decode cX10_thinOnce 86 = .ok (.iconst 0, 1) := by decide +kernel
theorem dX10_thinOnce_87 : decode cX10_thinOnce 87 = .ok (.bastore, 1) := by decide +kernel
theorem dX10_thinOnce_88 : decode cX10_thinOnce 88 = .ok (.iinc 1 1, 3) := by decide +kernel
theorem dX10_thinOnce_91 : decode cX10_thinOnce 91 = .ok (.goto (-89), 3) := by decide +kernel
theorem dX10_thinOnce_94 : decode cX10_thinOnce 94 = .ok (.iconst 0, 1) := by decide +kernel
theorem dX10_thinOnce_95 : decode cX10_thinOnce 95 = .ok (.istore_n 1, 1) := by decide +kernel
theorem dX10_thinOnce_96 : decode cX10_thinOnce 96 = .ok (.iconst 0, 1) := by decide +kernel
theorem dX10_thinOnce_97 : decode cX10_thinOnce 97 = .ok (.istore_n 2, 1) := by decide +kernel
theorem dX10_thinOnce_98 : decode cX10_thinOnce 98 = .ok (.iload_n 2, 1) := by decide +kernel
theorem dX10_thinOnce_99 : decode cX10_thinOnce 99 = .ok (.aload_n 0, 1) := by decide +kernel
theorem dX10_thinOnce_100 : decode cX10_thinOnce 100 = .ok (.invokevirtual 117, 3) := by decide +kernel
theorem dX10_thinOnce_103 : decode cX10_thinOnce 103 = .ok (.if_icmp .ge 45, 3) := by decide +kernel
theorem dX10_thinOnce_106 : decode cX10_thinOnce 106 = .ok (.aload_n 0, 1) := by decide +kernel
theorem dX10_thinOnce_107 : decode cX10_thinOnce 107 = .ok (.getfield 40, 3) := by decide +kernel
theorem dX10_thinOnce_110 : decode cX10_thinOnce 110 = .ok (.iload_n 2, 1) := by decide +kernel
theorem dX10_thinOnce_111 : decode cX10_thinOnce 111 = .ok (.baload, 1) := by decide +kernel
theorem dX10_thinOnce_112 : decode cX10_thinOnce 112 = .ok (.ifCond .eq 30, 3) := by decide +kernel
theorem dX10_thinOnce_115 : decode cX10_thinOnce 115 = .ok (.aload_n 0, 1) := by decide +kernel
theorem dX10_thinOnce_116 : decode cX10_thinOnce 116 = .ok (.iload_n 2, 1) := by decide +kernel
theorem dX10_thinOnce_117 : decode cX10_thinOnce 117 = .ok (.invokevirtual 211, 3) := by decide +kernel
theorem dX10_thinOnce_120 : decode cX10_thinOnce 120 = .ok (.ifCond .eq 22, 3) := by decide +kernel
theorem dX10_thinOnce_123 : decode cX10_thinOnce 123 = .ok (.aload_n 0, 1) := by decide +kernel
theorem dX10_thinOnce_124 : decode cX10_thinOnce 124 = .ok (.iload_n 2, 1) := by decide +kernel
theorem dX10_thinOnce_125 : decode cX10_thinOnce 125 = .ok (.invokevirtual 204, 3) := by decide +kernel
theorem dX10_thinOnce_128 : decode cX10_thinOnce 128 = .ok (.iconst 1, 1) := by decide +kernel
theorem dX10_thinOnce_129 : decode cX10_thinOnce 129 = .ok (.if_icmp .eq 13, 3) := by decide +kernel
theorem dX10_thinOnce_132 : decode cX10_thinOnce 132 = .ok (.aload_n 0, 1) := by decide +kernel
theorem dX10_thinOnce_133 : decode cX10_thinOnce 133 = .ok (.getfield 27, 3) := by decide +kernel
theorem dX10_thinOnce_136 : decode cX10_thinOnce 136 = .ok (.iload_n 2, 1) := by decide +kernel
theorem dX10_thinOnce_137 : decode cX10_thinOnce 137 = .ok (.iconst 0, 1) := by decide +kernel
theorem dX10_thinOnce_138 : decode cX10_thinOnce 138 = .ok (.bastore, 1) := by decide +kernel
theorem dX10_thinOnce_139 : decode cX10_thinOnce 139 = .ok (.iinc 1 1, 3) := by decide +kernel
theorem dX10_thinOnce_142 : decode cX10_thinOnce 142 = .ok (.iinc 2 1, 3) := by decide +kernel
theorem dX10_thinOnce_145 : decode cX10_thinOnce 145 = .ok (.goto (-47), 3) := by decide +kernel
theorem dX10_thinOnce_148 : decode cX10_thinOnce 148 = .ok (.iload_n 1, 1) := by decide +kernel
theorem dX10_thinOnce_149 : decode cX10_thinOnce 149 = .ok (.ireturn, 1) := by decide +kernel
set_option maxRecDepth 20000 in
theorem ggX10_thinning_X10_thinOnce : GoodIn wsX10_thinning wsX10_thinOnce := goodIn_r _ [6, 7, 8, 9, 10, 11, 12, 5, 13, 14, 15, 16, 17, 18, 19, 20, 21, 22, 23, 24, 25, 26, 27, 28, 29, 30, 31, 32, 33, 34, 35, 36, 37, 38, 39, 40, 41, 42, 43, 44, 45, 46, 47, 48, 49, 50, 51, 52, 53, 54, 55, 56, 57, 58, 59, 60] rfl (by decide +kernel)
set_option maxRecDepth 20000 in
theorem gX10_thinning_X10_thinOnce : GoodIn wsX10_thinning (wsV RX10 214 RX10 yX10_thinOnce wsX10_thinOnce) := goodIn_app (goodIn_of _ (by decide +kernel)) ggX10_thinning_X10_thinOnce
theorem dX10_thinning_0 : decode cX10_thinning 0 = .ok (.aload_n 0, 1) := by decide +kernel
theorem dX10_thinning_1 : decode cX10_thinning 1 = .ok (.iconst 0, 1) := by decide +kernel
theorem dX10_thinning_2 : decode cX10_thinning 2 = .ok (.putfield 52, 3) := by decide +kernel
theorem dX10_thinning_5 : decode cX10_thinning 5 = .ok (.aload_n 0, 1) := by decide +kernel
theorem dX10_thinning_6 : decode cX10_thinning 6 = .ok (.invokevirtual 214, 3) := by decide +kernel
theorem dX10_thinning_9 : decode cX10_thinning 9 = .ok (.ireturn, 1) := by decide +kernel
set_option maxRecDepth 20000 in
theorem ggX10_thin_X10_thinOnce : GoodIn wsX10_thin wsX10_thinOnce := goodIn_r _ [6, 7, 8, 9, 10, 11, 12, 5, 13, 14, 15, 16, 17, 18, 19, 20, 21, 22, 23, 24, 25, 26, 27, 28, 29, 30, 31, 32, 33, 34, 35, 36, 37, 38, 39, 40, 41, 42, 43, 44, 45, 46, 47, 48, 49, 50, 51, 52, 53, 54, 55, 56, 57, 58, 59, 60] rfl (by decide +kernel)
set_option maxRecDepth 20000 in
theorem gX10_thin_X10_thinOnce : GoodIn wsX10_thin (wsV RX10 214 RX10 yX10_thinOnce wsX10_thinOnce) := goodIn_app (goodIn_of _ (by decide +kernel)) ggX10_thin_X10_thinOnce
theorem dX10_thin_0 : decode cX10_thin 0 = .ok (.aload_n 0, 1) := by decide +kernel
theorem dX10_thin_1 : decode cX10_thin 1 = .ok (.iconst 0, 1) := by decide +kernel
theorem dX10_thin_2 : decode cX10_thin 2 = .ok (.putfield 52, 3) := by decide +kernel
theorem dX10_thin_5 : decode cX10_thin 5 = .ok (.iconst 0, 1) := by decide +kernel
theorem dX10_thin_6 : decode cX10_thin 6 = .ok (.istore_n 1, 1) := by decide +kernel
theorem dX10_thin_7 : decode cX10_thin 7 = .ok (.aload_n 0, 1) := by decide +kernel
theorem dX10_thin_8 : decode cX10_thin 8 = .ok (.invokevirtual 214, 3) := by decide +kernel
theorem dX10_thin_11 : decode cX10_thin 11 = .ok (.istore_n 2, 1) := by decide +kernel
theorem dX10_thin_12 : decode cX10_thin 12 = .ok (.iload_n 2, 1) := by decide +kernel
theorem dX10_thin_13 : decode cX10_thin 13 = .ok (.ifCond .le 15, 3) := by decide +kernel
theorem dX10_thin_16 : decode cX10_thin 16 = .ok (.iload_n 1, 1) := by decide +kernel
theorem dX10_thin_17 : decode cX10_thin 17 = .ok (.iload_n 2, 1) := by decide +kernel
theorem dX10_thin_18 : decode cX10_thin 18 = .ok (.iadd, 1) := by decide +kernel
theorem dX10_thin_19 : decode cX10_thin 19 = .ok (.istore_n 1, 1) := by decide +kernel
theorem dX10_thin_20 : decode cX10_thin 20 = .ok (.aload_n 0, 1) := by decide +kernel
theorem dX10_thin_21 : decode cX10_thin 21 = .ok (.invokevirtual 214, 3) := by decide +kernel
theorem dX10_thin_24 : decode cX10_thin 24 = .ok (.istore_n 2, 1) := by decide +kernel
theorem dX10_thin_25 : decode cX10_thin 25 = .ok (.goto (-13), 3) := by decide +kernel
theorem dX10_thin_28 : decode cX10_thin 28 = .ok (.iload_n 1, 1) := by decide +kernel
theorem dX10_thin_29 : decode cX10_thin 29 = .ok (.ireturn, 1) := by decide +kernel
set_option maxRecDepth 20000 in
theorem ggX10_count_X10_fields : GoodIn wsX10_count wsX10_fields := goodIn_r _ [11, 5, 6, 16, 17, 18, 19, 20, 21, 22, 23, 24, 25, 26, 27, 28, 29, 30, 31, 32, 33] rfl (by decide +kernel)
set_option maxRecDepth 20000 in
theorem gX10_count_X10_fields : GoodIn wsX10_count (wsV RX10 117 RX10 yX10_fields wsX10_fields) := goodIn_app (goodIn_of _ (by decide +kernel)) ggX10_count_X10_fields
set_option maxRecDepth 20000 in
theorem ggX10_count_X10_onEdge : GoodIn wsX10_count wsX10_onEdge := goodIn_r _ [15, 5, 6, 16, 17, 18, 19, 20, 21, 22, 23, 24, 25, 26, 27, 28, 29, 30, 31, 32, 33] rfl (by decide +kernel)
set_option maxRecDepth 20000 in
theorem gX10_count_X10_onEdge : GoodIn wsX10_count (wsV RX10 135 RX10 yX10_onEdge wsX10_onEdge) := goodIn_app (goodIn_of _ (by decide +kernel)) ggX10_count_X10_onEdge
theorem dX10_count_0 : decode cX10_count 0 = .ok (.aload_n 0, 1) := by decide +kernel
theorem dX10_count_1 : decode cX10_count 1 = .ok (.iconst 0, 1) := by decide +kernel
theorem dX10_count_2 : decode cX10_count 2 = .ok (.putfield 52, 3) := by decide +kernel
theorem dX10_count_5 : decode cX10_count 5 = .ok (.iconst 0, 1) := by decide +kernel
theorem dX10_count_6 : decode cX10_count 6 = .ok (.istore_n 2, 1) := by decide +kernel
theorem dX10_count_7 : decode cX10_count 7 = .ok (.iconst 0, 1) := by decide +kernel
theorem dX10_count_8 : decode cX10_count 8 = .ok (.istore_n 3, 1) := by decide +kernel
theorem dX10_count_9 : decode cX10_count 9 = .ok (.iconst 0, 1) := by decide +kernel
theorem dX10_count_10 : decode cX10_count 10 = .ok (.istore 4, 2) := by decide +kernel
theorem dX10_count_12 : decode cX10_count 12 = .ok (.iload 4, 2) := by decide +kernel
theorem dX10_count_14 : decode cX10_count 14 = .ok (.aload_n 0, 1) := by decide +kernel
theorem dX10_count_15 : decode cX10_count 15 = .ok (.getfield 68, 3) := by decide +kernel
theorem dX10_count_18 : decode cX10_count 18 = .ok (.if_icmp .ge 29, 3) := by decide +kernel
theorem dX10_count_21 : decode cX10_count 21 = .ok (.iload_n 2, 1) := by decide +kernel
theorem dX10_count_22 : decode cX10_count 22 = .ok (.aload_n 0, 1) := by decide +kernel
theorem dX10_count_23 : decode cX10_count 23 = .ok (.getfield 7, 3) := by decide +kernel
theorem dX10_count_26 : decode cX10_count 26 = .ok (.iload 4, 2) := by decide +kernel
theorem dX10_count_28 : decode cX10_count 28 = .ok (.iaload, 1) := by decide +kernel
theorem dX10_count_29 : decode cX10_count 29 = .ok (.iconst 2, 1) := by decide +kernel
theorem dX10_count_30 : decode cX10_count 30 = .ok (.irem, 1) := by decide +kernel
theorem dX10_count_31 : decode cX10_count 31 = .ok (.ifCond .ne 7, 3) := by decide +kernel
theorem dX10_count_34 : decode cX10_count 34 = .ok (.iconst 1, 1) := by decide +kernel
theorem dX10_count_35 : decode cX10_count 35 = .ok (.goto 4, 3) := by decide +kernel
theorem dX10_count_38 : decode cX10_count 38 = .ok (.iconst 0, 1) := by decide +kernel
theorem dX10_count_39 : decode cX10_count 39 = .ok (.iadd, 1) := by decide +kernel
theorem dX10_count_40 : decode cX10_count 40 = .ok (.istore_n 2, 1) := by decide +kernel
theorem dX10_count_41 : decode cX10_count 41 = .ok (.iinc 4 1, 3) := by decide +kernel
theorem dX10_count_44 : decode cX10_count 44 = .ok (.goto (-32), 3) := by decide +kernel
theorem dX10_count_47 : decode cX10_count 47 = .ok (.iconst 0, 1) := by decide +kernel
theorem dX10_count_48 : decode cX10_count 48 = .ok (.istore 4, 2) := by decide +kernel
theorem dX10_count_50 : decode cX10_count 50 = .ok (.iload 4, 2) := by decide +kernel
theorem dX10_count_52 : decode cX10_count 52 = .ok (.aload_n 0, 1) := by decide +kernel
theorem dX10_count_53 : decode cX10_count 53 = .ok (.invokevirtual 117, 3) := by decide +kernel
theorem dX10_count_56 : decode cX10_count 56 = .ok (.if_icmp .ge 36, 3) := by decide +kernel
theorem dX10_count_59 : decode cX10_count 59 = .ok (.iload_n 3, 1) := by decide +kernel
theorem dX10_count_60 : decode cX10_count 60 = .ok (.aload_n 0, 1) := by decide +kernel
theorem dX10_count_61 : decode cX10_count 61 = .ok (.getfield 27, 3) := by decide +kernel
theorem dX10_count_64 : decode cX10_count 64 = .ok (.iload 4, 2) := by decide +kernel
theorem dX10_count_66 : decode cX10_count 66 = .ok (.baload, 1) := by decide +kernel
theorem dX10_count_67 : decode cX10_count 67 = .ok (.ifCond .eq 16, 3) := by decide +kernel
theorem dX10_count_70 : decode cX10_count 70 = .ok (.aload_n 0, 1) := by decide +kernel
theorem dX10_count_71 : decode cX10_count 71 = .ok (.iload 4, 2) := by decide +kernel
theorem dX10_count_73 : decode cX10_count 73 = .ok (.invokevirtual 135, 3) := by decide +kernel
theorem dX10_count_76 : decode cX10_count 76 = .ok (.ifCond .eq 7, 3) := by decide +kernel
theorem dX10_count_79 : decode cX10_count 79 = .ok (.iconst 1, 1) := by decide +kernel
theorem dX10_count_80 : decode cX10_count 80 = .ok (.goto 4, 3) := by decide +kernel
theorem dX10_count_83 : decode cX10_count 83 = .ok (.iconst 0, 1) := by decide +kernel
theorem dX10_count_84 : decode cX10_count 84 = .ok (.iadd, 1) := by decide +kernel
theorem dX10_count_85 : decode cX10_count 85 = .ok (.istore_n 3, 1) := by decide +kernel
theorem dX10_count_86 : decode cX10_count 86 = .ok (.iinc 4 1, 3) := by decide +kernel
theorem dX10_count_89 : decode cX10_count 89 = .ok (.goto (-39), 3) := by decide +kernel
theorem dX10_count_92 : decode cX10_count 92 = .ok (.iload_n 1, 1) := by decide +kernel
theorem dX10_count_93 : decode cX10_count 93 = .ok (.ifCond .ne 10, 3) := by decide +kernel
theorem dX10_count_96 : decode cX10_count 96 = .ok (.aload_n 0, 1) := by decide +kernel
theorem dX10_count_97 : decode cX10_count 97 = .ok (.getfield 68, 3) := by decide +kernel
theorem dX10_count_100 : decode cX10_count 100 = .ok (.goto 48, 3) := by decide +kernel
theorem dX10_count_103 : decode cX10_count 103 = .ok (.iload_n 1, 1) := by decide +kernel
theorem dX10_count_104 : decode cX10_count 104 = .ok (.iconst 1, 1) := by decide +kernel
theorem dX10_count_105 : decode cX10_count 105 = .ok (.if_icmp .ne 10, 3) := by decide +kernel
theorem dX10_count_108 : decode cX10_count 108 = .ok (.aload_n 0, 1) := by decide +kernel
theorem dX10_count_109 : decode cX10_count 109 = .ok (.getfield 20, 3) := by decide +kernel
theorem dX10_count_112 : decode cX10_count 112 = .ok (.goto 36, 3) := by decide +kernel
theorem dX10_count_115 : decode cX10_count 115 = .ok (.iload_n 1, 1) := by decide +kernel
theorem dX10_count_116 : decode cX10_count 116 = .ok (.iconst 2, 1) := by decide +kernel
theorem dX10_count_117 : decode cX10_count 117 = .ok (.if_icmp .ne 10, 3) := by decide +kernel
theorem dX10_count_120 : decode cX10_count 120 = .ok (.aload_n 0, 1) := by decide +kernel
theorem dX10_count_121 : decode cX10_count 121 = .ok (.getfield 24, 3) := by decide +kernel
theorem dX10_count_124 : decode cX10_count 124 = .ok (.goto 24, 3) := by decide +kernel
theorem dX10_count_127 : decode cX10_count 127 = .ok (.iload_n 1, 1) := by decide +kernel
theorem dX10_count_128 : decode cX10_count 128 = .ok (.iconst 3, 1) := by decide +kernel
theorem dX10_count_129 : decode cX10_count 129 = .ok (.if_icmp .ne 7, 3) := by decide +kernel
theorem dX10_count_132 : decode cX10_count 132 = .ok (.iload_n 2, 1) := by decide +kernel
theorem dX10_count_133 : decode cX10_count 133 = .ok (.goto 15, 3) := by decide +kernel
theorem dX10_count_136 : decode cX10_count 136 = .ok (.iload_n 1, 1) := by decide +kernel
theorem dX10_count_137 : decode cX10_count 137 = .ok (.iconst 4, 1) := by decide +kernel
theorem dX10_count_138 : decode cX10_count 138 = .ok (.if_icmp .ne 7, 3) := by decide +kernel
theorem dX10_count_141 : decode cX10_count 141 = .ok (.iload_n 3, 1) := by decide +kernel
theorem dX10_count_142 : decode cX10_count 142 = .ok (.goto 6, 3) := by decide +kernel
theorem dX10_count_145 : decode cX10_count 145 = .ok (.sipush (-1002), 3) := by decide +kernel
theorem dX10_count_148 : decode cX10_count 148 = .ok (.ireturn, 1) := by decide +kernel
theorem dJ6_bitCount_0f7a4_0 : decode cJ6_bitCount_0f7a4 0 = .ok (.iload_n 0, 1) := by decide +kernel
theorem dJ6_bitCount_0f7a4_1 : decode cJ6_bitCount_0f7a4 1 = .ok (.iload_n 0, 1) := by decide +kernel
theorem dJ6_bitCount_0f7a4_2 : decode cJ6_bitCount_0f7a4 2 = .ok (.iconst 1, 1) := by decide +kernel
theorem dJ6_bitCount_0f7a4_3 : decode cJ6_bitCount_0f7a4 3 = .ok (.iushr, 1) := by decide +kernel
theorem dJ6_bitCount_0f7a4_4 : decode cJ6_bitCount_0f7a4 4 = .ok (.ldc_w 265, 3) := by decide +kernel
theorem dJ6_bitCount_0f7a4_7 : decode cJ6_bitCount_0f7a4 7 = .ok (.iand, 1) := by decide +kernel
theorem dJ6_bitCount_0f7a4_8 : decode cJ6_bitCount_0f7a4 8 = .ok (.isub, 1) := by decide +kernel
theorem dJ6_bitCount_0f7a4_9 : decode cJ6_bitCount_0f7a4 9 = .ok (.istore_n 0, 1) := by decide +kernel
theorem dJ6_bitCount_0f7a4_10 : decode cJ6_bitCount_0f7a4 10 = .ok (.iload_n 0, 1) := by decide +kernel
theorem dJ6_bitCount_0f7a4_11 : decode cJ6_bitCount_0f7a4 11 = .ok (.ldc_w 266, 3) := by decide +kernel
theorem dJ6_bitCount_0f7a4_14 : decode cJ6_bitCount_0f7a4 14 = .ok (.iand, 1) := by decide +kernel
theorem dJ6_bitCount_0f7a4_15 : decode cJ6_bitCount_0f7a4 15 = .ok (.iload_n 0, 1) := by decide +kernel
theorem dJ6_bitCount_0f7a4_16 : decode cJ6_bitCount_0f7a4 16 = .ok (.iconst 2, 1) := by decide +kernel
theorem dJ6_bitCount_0f7a4_17 : decode cJ6_bitCount_0f7a4 17 = .ok (.iushr, 1) := by decide +kernel
theorem dJ6_bitCount_0f7a4_18 : decode cJ6_bitCount_0f7a4 18 = .ok (.ldc_w 266, 3) := by decide +kernel
theorem dJ6_bitCount_0f7a4_21 : decode cJ6_bitCount_0f7a4 21 = .ok (.iand, 1) := by decide +kernel
theorem dJ6_bitCount_0f7a4_22 : decode cJ6_bitCount_0f7a4 22 = .ok (.iadd, 1) := by decide +kernel
theorem dJ6_bitCount_0f7a4_23 : decode cJ6_bitCount_0f7a4 23 = .ok (.istore_n 0, 1) := by decide +kernel
theorem dJ6_bitCount_0f7a4_24 : decode cJ6_bitCount_0f7a4 24 = .ok (.iload_n 0, 1) := by decide +kernel
theorem dJ6_bitCount_0f7a4_25 : decode cJ6_bitCount_0f7a4 25 = .ok (.iload_n 0, 1) := by decide +kernel
theorem dJ6_bitCount_0f7a4_26 : decode cJ6_bitCount_0f7a4 26 = .ok (.iconst 4, 1) := by decide +kernel
theorem dJ6_bitCount_0f7a4_27 : decode cJ6_bitCount_0f7a4 27 = .ok (.iushr, 1) := by decide +kernel
theorem dJ6_bitCount_0f7a4_28 : decode cJ6_bitCount_0f7a4 28 = .ok (.iadd, 1) := by decide +kernel
theorem dJ6_bitCount_0f7a4_29 : decode cJ6_bitCount_0f7a4 29 = .ok (.ldc_w 267, 3) := by decide +kernel
theorem dJ6_bitCount_0f7a4_32 : decode cJ6_bitCount_0f7a4 32 = .ok (.iand, 1) := by decide +kernel
theorem dJ6_bitCount_0f7a4_33 : decode cJ6_bitCount_0f7a4 33 = .ok (.istore_n 0, 1) := by decide +kernel
theorem dJ6_bitCount_0f7a4_34 : decode cJ6_bitCount_0f7a4 34 = .ok (.iload_n 0, 1) := by decide +kernel
theorem dJ6_bitCount_0f7a4_35 : decode cJ6_bitCount_0f7a4 35 = .ok (.iload_n 0, 1) := by decide +kernel
theorem dJ6_bitCount_0f7a4_36 : decode cJ6_bitCount_0f7a4 36 = .ok (.bipush 8, 2) := by decide +kernel
theorem dJ6_bitCount_0f7a4_38 : decode cJ6_bitCount_0f7a4 38 = .ok (.iushr, 1) := by decide +kernel
theorem dJ6_bitCount_0f7a4_39 : decode cJ6_bitCount_0f7a4 39 = .ok (.iadd, 1) := by decide +kernel
theorem dJ6_bitCount_0f7a4_40 : decode cJ6_bitCount_0f7a4 40 = .ok (.istore_n 0, 1) := by decide +kernel
theorem dJ6_bitCount_0f7a4_41 : decode cJ6_bitCount_0f7a4 41 = .ok (.iload_n 0, 1) := by decide +kernel
theorem dJ6_bitCount_0f7a4_42 : decode cJ6_bitCount_0f7a4 42 = .ok (.iload_n 0, 1) := by decide +kernel
theorem dJ6_bitCount_0f7a4_43 : decode cJ6_bitCount_0f7a4 43 = .ok (.bipush 16, 2) := by decide +kernel
theorem dJ6_bitCount_0f7a4_45 : decode cJ6_bitCount_0f7a4 45 = .ok (.iushr, 1) := by decide +kernel
theorem dJ6_bitCount_0f7a4_46 : decode cJ6_bitCount_0f7a4 46 = .ok (.iadd, 1) := by decide +kernel
theorem dJ6_bitCount_0f7a4_47 : decode cJ6_bitCount_0f7a4 47 = .ok (.istore_n 0, 1) := by decide +kernel
theorem dJ6_bitCount_0f7a4_48 : decode cJ6_bitCount_0f7a4 48 = .ok (.iload_n 0, 1) := by decide +kernel
theorem dJ6_bitCount_0f7a4_49 : decode cJ6_bitCount_0f7a4 49 = .ok (.bipush 63, 2) := by decide +kernel
theorem dJ6_bitCount_0f7a4_51 : decode cJ6_bitCount_0f7a4 51 = .ok (.iand, 1) := by decide +kernel
theorem dJ6_bitCount_0f7a4_52 : decode cJ6_bitCount_0f7a4 52 = .ok (.ireturn, 1) := by decide +kernel
theorem dJ9_floorDiv_7cf53_0 : decode cJ9_floorDiv_7cf53 0 = .ok (.iload_n 0, 1) := by decide +kernel
theorem dJ9_floorDiv_7cf53_1 : decode cJ9_floorDiv_7cf53 1 = .ok (.iload_n 1, 1) := by decide +kernel
theorem dJ9_floorDiv_7cf53_2 : decode cJ9_floorDiv_7cf53 2 = .ok (.idiv, 1) := by decide +kernel
theorem dJ9_floorDiv_7cf53_3 : decode cJ9_floorDiv_7cf53 3 = .ok (.istore_n 2, 1) := by decide +kernel
theorem dJ9_floorDiv_7cf53_4 : decode cJ9_floorDiv_7cf53 4 = .ok (.iload_n 0, 1) := by decide +kernel
theorem dJ9_floorDiv_7cf53_5 : decode cJ9_floorDiv_7cf53 5 = .ok (.iload_n 1, 1) := by decide +kernel
theorem dJ9_floorDiv_7cf53_6 : decode cJ9_floorDiv_7cf53 6 = .ok (.ixor, 1) := by decide +kernel
theorem dJ9_floorDiv_7cf53_7 : decode cJ9_floorDiv_7cf53 7 = .ok (.ifCond .ge 14, 3) := by decide +kernel
theorem dJ9_floorDiv_7cf53_10 : decode cJ9_floorDiv_7cf53 10 = .ok (.iload_n 2, 1) := by decide +kernel
theorem dJ9_floorDiv_7cf53_11 : decode cJ9_floorDiv_7cf53 11 = .ok (.iload_n 1, 1) := by decide +kernel
theorem dJ9_floorDiv_7cf53_12 : decode cJ9_floorDiv_7cf53 12 = .ok (.imul, 1) := by decide +kernel
theorem dJ9_floorDiv_7cf53_13 : decode cJ9_floorDiv_7cf53 13 = .ok (.iload_n 0, 1) := by decide +kernel
theorem dJ9_floorDiv_7cf53_14 : decode cJ9_floorDiv_7cf53 14 = .ok (.if_icmp .eq 7, 3) := by decide +kernel
theorem dJ9_floorDiv_7cf53_17 : decode cJ9_floorDiv_7cf53 17 = .ok (.iload_n 2, 1) := by decide +kernel
theorem dJ9_floorDiv_7cf53_18 : decode cJ9_floorDiv_7cf53 18 = .ok (.iconst 1, 1) := by decide +kernel
theorem dJ9_floorDiv_7cf53_19 : decode cJ9_floorDiv_7cf53 19 = .ok (.isub, 1) := by decide +kernel
theorem dJ9_floorDiv_7cf53_20 : decode cJ9_floorDiv_7cf53 20 = .ok (.ireturn, 1) := by decide +kernel
theorem dJ9_floorDiv_7cf53_21 : decode cJ9_floorDiv_7cf53 21 = .ok (.iload_n 2, 1) := by decide +kernel
theorem dJ9_floorDiv_7cf53_22 : decode cJ9_floorDiv_7cf53 22 = .ok (.ireturn, 1) := by decide +kernel
theorem dJ9_abs_0f7a4_0 : decode cJ9_abs_0f7a4 0 = .ok (.iload_n 0, 1) := by decide +kernel
theorem dJ9_abs_0f7a4_1 : decode cJ9_abs_0f7a4 1 = .ok (.ifCond .ge 8, 3) := by decide +kernel
theorem dJ9_abs_0f7a4_4 : decode cJ9_abs_0f7a4 4 = .ok (.iload_n 0, 1) := by decide +kernel
theorem dJ9_abs_0f7a4_5 : decode cJ9_abs_0f7a4 5 = .ok (.ineg, 1) := by decide +kernel
theorem dJ9_abs_0f7a4_6 : decode cJ9_abs_0f7a4 6 = .ok (.goto 4, 3) := by decide +kernel
theorem dJ9_abs_0f7a4_9 : decode cJ9_abs_0f7a4 9 = .ok (.iload_n 0, 1) := by decide +kernel
theorem dJ9_abs_0f7a4_10 : decode cJ9_abs_0f7a4 10 = .ok (.ireturn, 1) := by decide +kernel
theorem dJ9_max_7cf53_0 : decode cJ9_max_7cf53 0 = .ok (.iload_n 0, 1) := by decide +kernel
theorem dJ9_max_7cf53_1 : decode cJ9_max_7cf53 1 = .ok (.iload_n 1, 1) := by decide +kernel
theorem dJ9_max_7cf53_2 : decode cJ9_max_7cf53 2 = .ok (.if_icmp .lt 7, 3) := by decide +kernel
theorem dJ9_max_7cf53_5 : decode cJ9_max_7cf53 5 = .ok (.iload_n 0, 1) := by decide +kernel
theorem dJ9_max_7cf53_6 : decode cJ9_max_7cf53 6 = .ok (.goto 4, 3) := by decide +kernel
theorem dJ9_max_7cf53_9 : decode cJ9_max_7cf53 9 = .ok (.iload_n 1, 1) := by decide +kernel
theorem dJ9_max_7cf53_10 : decode cJ9_max_7cf53 10 = .ok (.ireturn, 1) := by decide +kernel
theorem dJ9_min_7cf53_0 : decode cJ9_min_7cf53 0 = .ok (.iload_n 0, 1) := by decide +kernel
theorem dJ9_min_7cf53_1 : decode cJ9_min_7cf53 1 = .ok (.iload_n 1, 1) := by decide +kernel
theorem dJ9_min_7cf53_2 : decode cJ9_min_7cf53 2 = .ok (.if_icmp .gt 7, 3) := by decide +kernel
theorem dJ9_min_7cf53_5 : decode cJ9_min_7cf53 5 = .ok (.iload_n 0, 1) := by decide +kernel
theorem dJ9_min_7cf53_6 : decode cJ9_min_7cf53 6 = .ok (.goto 4, 3) := by decide +kernel
theorem dJ9_min_7cf53_9 : decode cJ9_min_7cf53 9 = .ok (.iload_n 1, 1) := by decide +kernel
theorem dJ9_min_7cf53_10 : decode cJ9_min_7cf53 10 = .ok (.ireturn, 1) := by decide +kernel
set_option maxRecDepth 20000 in
theorem ggL_law_X9_init : GoodIn wsL_law wsX9_init := goodIn_r _ [8, 9, 10, 11, 12, 13, 14, 15, 16, 17, 18, 19, 20, 21, 22, 23, 24, 25, 26, 27, 28, 29, 30, 31, 32, 33, 34, 35, 36, 37, 38, 39, 40, 41, 42, 43, 44, 45, 46, 47, 48, 49, 50, 51, 52, 53, 54, 55, 56, 57, 58, 59, 60, 61, 62, 63, 64, 65, 66, 67, 68, 69, 70, 71, 72, 73, 74, 75, 76, 77, 78, 79, 80, 81, 82, 83, 84, 85, 86, 87, 88, 89, 90, 91, 950, 951, 952, 953, 923, 924, 925, 926, 927, 928, 929, 930, 931, 954, 955, 956, 957, 958, 959, 960, 961, 962, 963, 964, 965, 966, 967, 968, 969, 970, 971, 972, 973, 974, 975] rfl (by decide +kernel)
set_option maxRecDepth 20000 in
theorem gL_law_X9_init : GoodIn wsL_law (wsX9_init) := ggL_law_X9_init
set_option maxRecDepth 20000 in
theorem ggL_law_X10_init : GoodIn wsL_law wsX10_init := goodIn_r _ [94, 95, 10, 11, 51, 96, 97, 98, 99, 100, 101, 62, 102, 103, 104, 105, 106, 107, 108, 109, 932, 933, 934, 935, 936, 937, 938, 939, 940, 941, 942, 943, 944, 945, 946, 947, 948, 949] rfl (by decide +kernel)
set_option maxRecDepth 20000 in
theorem gL_law_X10_init : GoodIn wsL_law (wsX10_init) := ggL_law_X10_init
set_option maxRecDepth 20000 in
theorem ggL_law_X9_step : GoodIn wsL_law wsX9_step := goodIn_r _ [113, 15, 114, 115, 116, 14, 117, 118, 119, 120, 121, 122, 52, 53, 54, 923, 924, 925, 926, 927, 928, 929, 930, 931, 950, 951, 952, 953] rfl (by decide +kernel)
set_option maxRecDepth 20000 in
theorem gL_law_X9_step : GoodIn wsL_law (wsV RL 13 RX9 yX9_step wsX9_step) := goodIn_app (goodIn_of _ (by decide +kernel)) ggL_law_X9_step
set_option maxRecDepth 20000 in
theorem ggL_law_X10_step : GoodIn wsL_law wsX10_step := goodIn_r _ [126, 127, 128, 129, 96, 130, 131, 5, 132, 932, 933, 934, 935, 936, 937, 938, 939, 940, 941, 942, 943, 944, 945, 946, 947, 948, 949] rfl (by decide +kernel)
set_option maxRecDepth 20000 in
theorem gL_law_X10_step : GoodIn wsL_law (wsV RL 17 RX10 yX10_step wsX10_step) := goodIn_app (goodIn_of _ (by decide +kernel)) ggL_law_X10_step
set_option maxRecDepth 20000 in
theorem ggL_law_X9_back : GoodIn wsL_law wsX9_back := goodIn_r _ [136, 15, 114, 115, 116, 14, 117, 118, 137, 138, 139, 140, 923, 924, 925, 926, 927, 928, 929, 930, 931, 950, 951, 952, 953] rfl (by decide +kernel)
set_option maxRecDepth 20000 in
theorem gL_law_X9_back : GoodIn wsL_law (wsV RL 18 RX9 yX9_back wsX9_back) := goodIn_app (goodIn_of _ (by decide +kernel)) ggL_law_X9_back
set_option maxRecDepth 20000 in
theorem ggL_law_X10_back : GoodIn wsL_law wsX10_back := goodIn_r _ [144, 127, 145, 129, 130, 131, 5, 132, 932, 933, 934, 935, 936, 937, 938, 939, 940, 941, 942, 943, 944, 945, 946, 947, 948, 949] rfl (by decide +kernel)
set_option maxRecDepth 20000 in
theorem gL_law_X10_back : GoodIn wsL_law (wsV RL 21 RX10 yX10_back wsX10_back) := goodIn_app (goodIn_of _ (by decide +kernel)) ggL_law_X10_back
set_option maxRecDepth 20000 in
theorem ggL_law_X9_way : GoodIn wsL_law wsX9_way := goodIn_r _ [149, 15, 150, 151, 152, 14, 153, 118, 154, 155, 156, 157, 52, 158, 923, 924, 925, 926, 927, 928, 929, 930, 931, 950, 951, 952, 953] rfl (by decide +kernel)
set_option maxRecDepth 20000 in
theorem gL_law_X9_way : GoodIn wsL_law (wsV RL 22 RX9 yX9_way wsX9_way) := goodIn_app (goodIn_of _ (by decide +kernel)) ggL_law_X9_way
set_option maxRecDepth 20000 in
theorem ggL_law_X10_way : GoodIn wsL_law wsX10_way := goodIn_r _ [162, 127, 129, 96, 130, 131, 5, 132, 932, 933, 934, 935, 936, 937, 938, 939, 940, 941, 942, 943, 944, 945, 946, 947, 948, 949] rfl (by decide +kernel)
set_option maxRecDepth 20000 in
theorem gL_law_X10_way : GoodIn wsL_law (wsV RL 25 RX10 yX10_way wsX10_way) := goodIn_app (goodIn_of _ (by decide +kernel)) ggL_law_X10_way
set_option maxRecDepth 20000 in
theorem ggL_law_X9_place : GoodIn wsL_law wsX9_place := goodIn_r _ [166, 15, 167, 168, 169, 14, 170, 118, 171, 172, 173, 174, 54, 175, 176, 177, 178, 179, 53, 923, 924, 925, 926, 927, 928, 929, 930, 931, 950, 951, 952, 953] rfl (by decide +kernel)
set_option maxRecDepth 20000 in
theorem gL_law_X9_place : GoodIn wsL_law (wsV RL 26 RX9 yX9_place wsX9_place) := goodIn_app (goodIn_of _ (by decide +kernel)) ggL_law_X9_place
set_option maxRecDepth 20000 in
theorem ggL_law_X10_place : GoodIn wsL_law wsX10_place := goodIn_r _ [183, 127, 184, 185, 186, 5, 187, 129, 130, 131, 132, 188, 189, 190, 191, 96, 192, 193, 194, 195, 196, 197, 932, 933, 934, 935, 936, 937, 938, 939, 940, 941, 942, 943, 944, 945, 946, 947, 948, 949] rfl (by decide +kernel)
set_option maxRecDepth 20000 in
theorem gL_law_X10_place : GoodIn wsL_law (wsV RL 30 RX10 yX10_place wsX10_place) := goodIn_app (goodIn_of _ (by decide +kernel)) ggL_law_X10_place
set_option maxRecDepth 20000 in
theorem ggL_law_X9_draw : GoodIn wsL_law wsX9_draw := goodIn_r _ [201, 202, 203, 204, 205, 206, 207, 208, 15, 114, 115, 116, 14, 117, 118, 209, 210, 211, 212, 213, 214, 215, 216, 217, 218, 219, 220, 221, 222, 223, 120, 121, 122, 52, 53, 54, 923, 924, 925, 926, 927, 928, 929, 930, 931, 950, 951, 952, 953] rfl (by decide +kernel)
set_option maxRecDepth 20000 in
theorem gL_law_X9_draw : GoodIn wsL_law (wsV RL 31 RX9 yX9_draw wsX9_draw) := goodIn_app (goodIn_of _ (by decide +kernel)) ggL_law_X9_draw
set_option maxRecDepth 20000 in
theorem ggL_law_X10_draw : GoodIn wsL_law wsX10_draw := goodIn_r _ [227, 127, 228, 145, 129, 96, 130, 131, 5, 132, 229, 230, 231, 232, 233, 234, 235, 236, 237, 195, 196, 197, 192, 193, 194, 932, 933, 934, 935, 936, 937, 938, 939, 940, 941, 942, 943, 944, 945, 946, 947, 948, 949] rfl (by decide +kernel)
set_option maxRecDepth 20000 in
theorem gL_law_X10_draw : GoodIn wsL_law (wsV RL 35 RX10 yX10_draw wsX10_draw) := goodIn_app (goodIn_of _ (by decide +kernel)) ggL_law_X10_draw
set_option maxRecDepth 20000 in
theorem ggL_law_X9_word : GoodIn wsL_law wsX9_word := goodIn_r _ [241] rfl (by decide +kernel)
set_option maxRecDepth 20000 in
theorem gL_law_X9_word : GoodIn wsL_law (wsV RL 36 RX9 yX9_word wsX9_word) := goodIn_app (goodIn_of _ (by decide +kernel)) ggL_law_X9_word
set_option maxRecDepth 20000 in
theorem ggL_law_X10_word : GoodIn wsL_law wsX10_word := goodIn_r _ [245, 127, 145, 130, 131, 5, 132, 932, 933, 934, 935, 936, 937, 938, 939, 940, 941, 942, 943, 944, 945, 946, 947, 948, 949] rfl (by decide +kernel)
set_option maxRecDepth 20000 in
theorem gL_law_X10_word : GoodIn wsL_law (wsV RL 40 RX10 yX10_word wsX10_word) := goodIn_app (goodIn_of _ (by decide +kernel)) ggL_law_X10_word
set_option maxRecDepth 20000 in
theorem ggL_law_X9_straight : GoodIn wsL_law wsX9_straight := goodIn_r _ [249, 19, 15, 250, 251, 252, 2, 253, 167, 168, 169, 14, 170, 118, 254, 255, 256, 18, 257, 258, 259, 260, 261, 262, 263, 264, 265, 266, 267, 268, 155, 156, 157, 52, 158, 151, 152, 153, 269, 270, 271, 272, 58, 273, 274, 275, 276, 277, 278, 279, 280, 281, 282, 283, 284, 923, 924, 925, 926, 927, 928, 929, 930, 931, 950, 951, 952, 953, 954, 955, 956, 957, 958, 959, 960] rfl (by decide +kernel)
set_option maxRecDepth 20000 in
theorem gL_law_X9_straight : GoodIn wsL_law (wsV RL 41 RX9 yX9_straight wsX9_straight) := goodIn_app (goodIn_of _ (by decide +kernel)) ggL_law_X9_straight
set_option maxRecDepth 20000 in
theorem ggL_law_X10_straight : GoodIn wsL_law wsX10_straight := goodIn_r _ [288, 127, 289, 290, 291, 5, 292, 184, 185, 186, 187, 129, 130, 131, 132, 293, 294, 295, 296, 297, 298, 299, 300, 96, 301, 302, 303, 304, 98, 305, 99, 306, 932, 933, 934, 935, 936, 937, 938, 939, 940, 941, 942, 943, 944, 945, 946, 947, 948, 949] rfl (by decide +kernel)
set_option maxRecDepth 20000 in
theorem gL_law_X10_straight : GoodIn wsL_law (wsV RL 44 RX10 yX10_straight wsX10_straight) := goodIn_app (goodIn_of _ (by decide +kernel)) ggL_law_X10_straight
set_option maxRecDepth 20000 in
theorem ggL_law_X9_span : GoodIn wsL_law wsX9_span := goodIn_r _ [310, 19, 15, 250, 251, 252, 2, 253, 167, 168, 169, 14, 170, 118, 254, 255, 256, 18, 257, 258, 259, 260, 261, 262, 263, 264, 265, 266, 267, 268, 155, 156, 157, 52, 158, 151, 152, 153, 269, 270, 271, 272, 58, 273, 274, 275, 276, 311, 282, 283, 284, 312, 313, 314, 315, 316, 317, 318, 319, 203, 204, 205, 320, 321, 322, 323, 324, 325, 326, 923, 924, 925, 926, 927, 928, 929, 930, 931, 950, 951, 952, 953, 954, 955, 956, 957, 958, 959, 960] rfl (by decide +kernel)
set_option maxRecDepth 20000 in
theorem gL_law_X9_span : GoodIn wsL_law (wsV RL 45 RX9 yX9_span wsX9_span) := goodIn_app (goodIn_of _ (by decide +kernel)) ggL_law_X9_span
set_option maxRecDepth 20000 in
theorem ggL_law_X10_span : GoodIn wsL_law wsX10_span := goodIn_r _ [330, 127, 99, 98, 289, 290, 291, 5, 292, 184, 185, 186, 187, 129, 130, 131, 132, 297, 298, 299, 300, 96, 301, 302, 303, 304, 305, 306, 331, 332, 333, 932, 933, 934, 935, 936, 937, 938, 939, 940, 941, 942, 943, 944, 945, 946, 947, 948, 949] rfl (by decide +kernel)
set_option maxRecDepth 20000 in
theorem gL_law_X10_span : GoodIn wsL_law (wsV RL 49 RX10 yX10_span wsX10_span) := goodIn_app (goodIn_of _ (by decide +kernel)) ggL_law_X10_span
set_option maxRecDepth 20000 in
theorem ggL_law_X9_plain : GoodIn wsL_law wsX9_plain := goodIn_r _ [337, 19, 15, 250, 251, 252, 2, 253, 167, 168, 169, 14, 170, 118, 254, 255, 256, 18, 257, 258, 259, 260, 261, 262, 263, 264, 265, 266, 267, 268, 155, 156, 157, 52, 158, 151, 152, 153, 269, 270, 271, 272, 58, 273, 274, 275, 276, 277, 278, 279, 280, 281, 282, 283, 284, 338, 339, 340, 341, 923, 924, 925, 926, 927, 928, 929, 930, 931, 950, 951, 952, 953, 954, 955, 956, 957, 958, 959, 960] rfl (by decide +kernel)
set_option maxRecDepth 20000 in
theorem gL_law_X9_plain : GoodIn wsL_law (wsV RL 50 RX9 yX9_plain wsX9_plain) := goodIn_app (goodIn_of _ (by decide +kernel)) ggL_law_X9_plain
set_option maxRecDepth 20000 in
theorem ggL_law_X10_plain : GoodIn wsL_law wsX10_plain := goodIn_r _ [345, 127, 98, 99, 289, 290, 291, 5, 292, 184, 185, 186, 187, 129, 130, 131, 132, 293, 294, 295, 296, 297, 298, 299, 300, 96, 301, 302, 303, 304, 305, 306, 932, 933, 934, 935, 936, 937, 938, 939, 940, 941, 942, 943, 944, 945, 946, 947, 948, 949] rfl (by decide +kernel)
set_option maxRecDepth 20000 in
theorem gL_law_X10_plain : GoodIn wsL_law (wsV RL 54 RX10 yX10_plain wsX10_plain) := goodIn_app (goodIn_of _ (by decide +kernel)) ggL_law_X10_plain
set_option maxRecDepth 20000 in
theorem ggL_law_X9_longest : GoodIn wsL_law wsX9_longest := goodIn_r _ [349, 15, 19, 114, 115, 116, 14, 117, 118, 350, 351, 352, 18, 353, 258, 259, 260, 261, 262, 263, 264, 265, 266, 267, 354, 268, 155, 156, 157, 52, 158, 151, 152, 153, 269, 270, 271, 272, 58, 273, 274, 275, 276, 355, 278, 279, 280, 281, 282, 283, 284, 923, 924, 925, 926, 927, 928, 929, 930, 931, 950, 951, 952, 953, 954, 955, 956, 957, 958, 959, 960] rfl (by decide +kernel)
set_option maxRecDepth 20000 in
theorem gL_law_X9_longest : GoodIn wsL_law (wsV RL 55 RX9 yX9_longest wsX9_longest) := goodIn_app (goodIn_of _ (by decide +kernel)) ggL_law_X9_longest
set_option maxRecDepth 20000 in
theorem ggL_law_X10_longest : GoodIn wsL_law wsX10_longest := goodIn_r _ [359, 127, 129, 360, 361, 362, 5, 363, 293, 294, 295, 296, 297, 298, 299, 300, 96, 301, 302, 303, 304, 98, 305, 99, 306, 932, 933, 934, 935, 936, 937, 938, 939, 940, 941, 942, 943, 944, 945, 946, 947, 948, 949] rfl (by decide +kernel)
set_option maxRecDepth 20000 in
theorem gL_law_X10_longest : GoodIn wsL_law (wsV RL 59 RX10 yX10_longest wsX10_longest) := goodIn_app (goodIn_of _ (by decide +kernel)) ggL_law_X10_longest
set_option maxRecDepth 20000 in
theorem ggL_law_X9_pieces : GoodIn wsL_law wsX9_pieces := goodIn_r _ [367, 15, 19, 114, 115, 116, 14, 117, 118, 350, 351, 352, 18, 353, 258, 259, 260, 261, 262, 263, 264, 265, 266, 267, 354, 268, 155, 156, 157, 52, 158, 151, 152, 153, 269, 270, 271, 272, 58, 273, 274, 275, 276, 355, 278, 279, 280, 281, 282, 283, 284, 923, 924, 925, 926, 927, 928, 929, 930, 931, 950, 951, 952, 953, 954, 955, 956, 957, 958, 959, 960] rfl (by decide +kernel)
set_option maxRecDepth 20000 in
theorem gL_law_X9_pieces : GoodIn wsL_law (wsV RL 60 RX9 yX9_pieces wsX9_pieces) := goodIn_app (goodIn_of _ (by decide +kernel)) ggL_law_X9_pieces
set_option maxRecDepth 20000 in
theorem ggL_law_X10_pieces : GoodIn wsL_law wsX10_pieces := goodIn_r _ [371, 127, 129, 360, 361, 362, 5, 363, 293, 294, 295, 296, 297, 298, 299, 300, 96, 301, 302, 303, 304, 98, 305, 99, 306, 932, 933, 934, 935, 936, 937, 938, 939, 940, 941, 942, 943, 944, 945, 946, 947, 948, 949] rfl (by decide +kernel)
set_option maxRecDepth 20000 in
theorem gL_law_X10_pieces : GoodIn wsL_law (wsV RL 64 RX10 yX10_pieces wsX10_pieces) := goodIn_app (goodIn_of _ (by decide +kernel)) ggL_law_X10_pieces
set_option maxRecDepth 20000 in
theorem ggL_law_X9_pieceEnd : GoodIn wsL_law wsX9_pieceEnd := goodIn_r _ [375, 15, 19, 114, 115, 116, 14, 117, 118, 350, 351, 352, 18, 353, 258, 259, 260, 261, 262, 263, 264, 265, 266, 267, 354, 268, 155, 156, 157, 52, 158, 151, 152, 153, 269, 270, 271, 272, 58, 273, 274, 275, 276, 355, 278, 279, 280, 281, 282, 283, 284, 923, 924, 925, 926, 927, 928, 929, 930, 931, 950, 951, 952, 953, 954, 955, 956, 957, 958, 959, 960] rfl (by decide +kernel)
set_option maxRecDepth 20000 in
theorem gL_law_X9_pieceEnd : GoodIn wsL_law (wsV RL 65 RX9 yX9_pieceEnd wsX9_pieceEnd) := goodIn_app (goodIn_of _ (by decide +kernel)) ggL_law_X9_pieceEnd
set_option maxRecDepth 20000 in
theorem ggL_law_X10_pieceEnd : GoodIn wsL_law wsX10_pieceEnd := goodIn_r _ [379, 127, 129, 360, 361, 362, 5, 363, 293, 294, 295, 296, 297, 298, 299, 300, 96, 301, 302, 303, 304, 98, 305, 99, 306, 932, 933, 934, 935, 936, 937, 938, 939, 940, 941, 942, 943, 944, 945, 946, 947, 948, 949] rfl (by decide +kernel)
set_option maxRecDepth 20000 in
theorem gL_law_X10_pieceEnd : GoodIn wsL_law (wsV RL 68 RX10 yX10_pieceEnd wsX10_pieceEnd) := goodIn_app (goodIn_of _ (by decide +kernel)) ggL_law_X10_pieceEnd
set_option maxRecDepth 20000 in
theorem ggL_law_X9_ground : GoodIn wsL_law wsX9_ground := goodIn_r _ [383, 23, 384, 385, 386, 22, 387, 64, 65, 63, 388, 389, 390, 391, 923, 924, 925, 926, 927, 928, 929, 930, 931, 961, 962, 963] rfl (by decide +kernel)
set_option maxRecDepth 20000 in
theorem gL_law_X9_ground : GoodIn wsL_law (wsV RL 69 RX9 yX9_ground wsX9_ground) := goodIn_app (goodIn_of _ (by decide +kernel)) ggL_law_X9_ground
set_option maxRecDepth 20000 in
theorem ggL_law_X10_ground : GoodIn wsL_law wsX10_ground := goodIn_r _ [395, 127, 396, 100, 101, 102, 130, 131, 5, 132, 932, 933, 934, 935, 936, 937, 938, 939, 940, 941, 942, 943, 944, 945, 946, 947, 948, 949] rfl (by decide +kernel)
set_option maxRecDepth 20000 in
theorem gL_law_X10_ground : GoodIn wsL_law (wsV RL 72 RX10 yX10_ground wsX10_ground) := goodIn_app (goodIn_of _ (by decide +kernel)) ggL_law_X10_ground
set_option maxRecDepth 20000 in
theorem ggL_law_X9_set : GoodIn wsL_law wsX9_set := goodIn_r _ [400, 23, 401, 402, 403, 22, 404, 405, 389, 390, 391, 64, 65, 406, 407, 408, 409, 63, 410, 411, 412, 413, 414, 923, 924, 925, 926, 927, 928, 929, 930, 931, 961, 962, 963] rfl (by decide +kernel)
set_option maxRecDepth 20000 in
theorem gL_law_X9_set : GoodIn wsL_law (wsV RL 73 RX9 yX9_set wsX9_set) := goodIn_app (goodIn_of _ (by decide +kernel)) ggL_law_X9_set
set_option maxRecDepth 20000 in
theorem ggL_law_X10_set : GoodIn wsL_law wsX10_set := goodIn_r _ [418, 127, 102, 419, 420, 421, 5, 422, 423, 424, 425, 426, 100, 101, 130, 131, 132, 932, 933, 934, 935, 936, 937, 938, 939, 940, 941, 942, 943, 944, 945, 946, 947, 948, 949] rfl (by decide +kernel)
set_option maxRecDepth 20000 in
theorem gL_law_X10_set : GoodIn wsL_law (wsV RL 76 RX10 yX10_set wsX10_set) := goodIn_app (goodIn_of _ (by decide +kernel)) ggL_law_X10_set
set_option maxRecDepth 20000 in
theorem ggL_law_X9_has : GoodIn wsL_law wsX9_has := goodIn_r _ [430, 23, 401, 402, 403, 22, 404, 405, 389, 390, 391, 64, 65, 406, 407, 408, 409, 63, 410, 923, 924, 925, 926, 927, 928, 929, 930, 931, 961, 962, 963] rfl (by decide +kernel)
set_option maxRecDepth 20000 in
theorem gL_law_X9_has : GoodIn wsL_law (wsV RL 77 RX9 yX9_has wsX9_has) := goodIn_app (goodIn_of _ (by decide +kernel)) ggL_law_X9_has
set_option maxRecDepth 20000 in
theorem ggL_law_X10_has : GoodIn wsL_law wsX10_has := goodIn_r _ [434, 127, 102, 419, 420, 421, 5, 422, 423, 424, 425, 426, 100, 101, 130, 131, 132, 932, 933, 934, 935, 936, 937, 938, 939, 940, 941, 942, 943, 944, 945, 946, 947, 948, 949] rfl (by decide +kernel)
set_option maxRecDepth 20000 in
theorem gL_law_X10_has : GoodIn wsL_law (wsV RL 80 RX10 yX10_has wsX10_has) := goodIn_app (goodIn_of _ (by decide +kernel)) ggL_law_X10_has
set_option maxRecDepth 20000 in
theorem ggL_law_X9_fill : GoodIn wsL_law wsX9_fill := goodIn_r _ [438, 23, 31, 15, 27, 401, 402, 403, 22, 404, 405, 389, 390, 391, 64, 65, 439, 440, 441, 30, 442, 75, 443, 444, 445, 446, 447, 448, 449, 450, 451, 115, 116, 14, 117, 118, 452, 177, 178, 179, 53, 175, 168, 169, 170, 453, 172, 173, 174, 54, 454, 455, 456, 457, 458, 459, 460, 461, 462, 463, 464, 465, 466, 467, 468, 469, 470, 471, 26, 472, 473, 474, 204, 475, 69, 476, 477, 478, 479, 480, 70, 481, 482, 483, 484, 485, 486, 487, 488, 71, 489, 490, 491, 492, 493, 494, 495, 496, 497, 498, 499, 500, 501, 502, 503, 504, 505, 506, 507, 508, 412, 413, 414, 63, 410, 509, 510, 511, 512, 513, 407, 408, 409, 923, 924, 925, 926, 927, 928, 929, 930, 931, 961, 962, 963, 967, 950, 951, 952, 953, 964, 965, 966] rfl (by decide +kernel)
set_option maxRecDepth 20000 in
theorem gL_law_X9_fill : GoodIn wsL_law (wsV RL 81 RX9 yX9_fill wsX9_fill) := goodIn_app (goodIn_of _ (by decide +kernel)) ggL_law_X9_fill
set_option maxRecDepth 20000 in
theorem ggL_law_X10_fill : GoodIn wsL_law wsX10_fill := goodIn_r _ [517, 127, 103, 129, 100, 102, 419, 420, 421, 5, 422, 423, 424, 425, 426, 101, 130, 131, 132, 188, 189, 190, 191, 96, 192, 193, 194, 195, 196, 197, 518, 519, 520, 521, 522, 523, 524, 525, 104, 526, 527, 528, 529, 229, 230, 231, 530, 531, 532, 533, 534, 535, 536, 537, 538, 539, 540, 541, 542, 543, 544, 545, 932, 933, 934, 935, 936, 937, 938, 939, 940, 941, 942, 943, 944, 945, 946, 947, 948, 949] rfl (by decide +kernel)
set_option maxRecDepth 20000 in
theorem gL_law_X10_fill : GoodIn wsL_law (wsV RL 84 RX10 yX10_fill wsX10_fill) := goodIn_app (goodIn_of _ (by decide +kernel)) ggL_law_X10_fill
set_option maxRecDepth 20000 in
theorem ggL_law_X9_heap : GoodIn wsL_law wsX9_heap := goodIn_r _ [549, 23, 27, 35, 509, 510, 511, 22, 512, 405, 389, 390, 391, 64, 65, 513, 407, 408, 409, 63, 410, 402, 403, 404, 550, 551, 552, 553, 554, 470, 471, 26, 472, 473, 474, 204, 475, 69, 476, 477, 478, 479, 480, 70, 481, 444, 445, 446, 482, 448, 449, 450, 483, 455, 456, 457, 484, 555, 556, 557, 558, 71, 559, 486, 487, 488, 489, 490, 491, 492, 493, 494, 560, 561, 562, 563, 564, 565, 566, 567, 568, 569, 570, 571, 572, 573, 574, 575, 576, 577, 578, 579, 580, 581, 582, 34, 583, 584, 585, 207, 208, 79, 80, 586, 587, 588, 589, 590, 591, 592, 593, 594, 595, 596, 597, 598, 599, 600, 601, 602, 603, 604, 605, 606, 607, 608, 609, 610, 611, 612, 613, 614, 615, 616, 617, 618, 619, 620, 621, 622, 623, 624, 625, 626, 923, 924, 925, 926, 927, 928, 929, 930, 931, 961, 962, 963, 964, 965, 966, 968, 969, 970] rfl (by decide +kernel)
set_option maxRecDepth 20000 in
theorem gL_law_X9_heap : GoodIn wsL_law (wsV RL 85 RX9 yX9_heap wsX9_heap) := goodIn_app (goodIn_of _ (by decide +kernel)) ggL_law_X9_heap
set_option maxRecDepth 20000 in
theorem ggL_law_X10_heap : GoodIn wsL_law wsX10_heap := goodIn_r _ [630, 127, 542, 543, 544, 5, 545, 102, 423, 424, 425, 426, 100, 101, 631, 632, 633, 634, 104, 522, 523, 524, 525, 103, 526, 527, 528, 529, 229, 230, 231, 530, 531, 532, 533, 635, 636, 637, 638, 534, 535, 536, 537, 538, 539, 540, 541, 639, 640, 641, 642, 195, 196, 197, 192, 193, 194, 643, 644, 645, 646, 518, 519, 520, 521, 130, 131, 132, 647, 648, 649, 650, 651, 652, 653, 654, 655, 656, 657, 658, 107, 659, 660, 661, 662, 663, 664, 665, 666, 932, 933, 934, 935, 936, 937, 938, 939, 940, 941, 942, 943, 944, 945, 946, 947, 948, 949] rfl (by decide +kernel)
set_option maxRecDepth 20000 in
theorem gL_law_X10_heap : GoodIn wsL_law (wsV RL 88 RX10 yX10_heap wsX10_heap) := goodIn_app (goodIn_of _ (by decide +kernel)) ggL_law_X10_heap
set_option maxRecDepth 20000 in
theorem ggL_law_X9_is : GoodIn wsL_law wsX9_is := goodIn_r _ [670, 35, 23, 43, 580, 581, 582, 34, 583, 584, 585, 207, 204, 208, 79, 80, 586, 587, 588, 22, 589, 64, 590, 591, 592, 593, 594, 595, 596, 597, 65, 598, 569, 570, 571, 572, 455, 456, 457, 513, 407, 408, 409, 63, 410, 402, 403, 404, 405, 389, 390, 391, 599, 600, 601, 602, 603, 604, 605, 606, 607, 608, 609, 610, 611, 612, 613, 614, 615, 616, 617, 444, 445, 446, 618, 448, 449, 450, 619, 620, 621, 622, 623, 624, 625, 626, 671, 672, 673, 674, 675, 676, 677, 678, 568, 679, 680, 681, 42, 682, 683, 684, 685, 686, 510, 511, 512, 687, 688, 689, 690, 691, 692, 693, 694, 474, 475, 695, 696, 697, 698, 923, 924, 925, 926, 927, 928, 929, 930, 931, 968, 969, 970, 961, 962, 963, 972, 973, 974] rfl (by decide +kernel)
set_option maxRecDepth 20000 in
theorem gL_law_X9_is : GoodIn wsL_law (wsV RL 89 RX9 yX9_is wsX9_is) := goodIn_app (goodIn_of _ (by decide +kernel)) ggL_law_X9_is
set_option maxRecDepth 20000 in
theorem ggL_law_X10_is : GoodIn wsL_law wsX10_is := goodIn_r _ [702, 127, 647, 648, 649, 5, 650, 102, 651, 652, 653, 654, 100, 101, 643, 644, 645, 646, 518, 519, 520, 521, 130, 131, 132, 655, 656, 657, 658, 107, 659, 660, 661, 662, 423, 424, 425, 426, 663, 664, 665, 666, 703, 704, 705, 706, 707, 708, 709, 710, 711, 712, 713, 714, 542, 543, 544, 545, 932, 933, 934, 935, 936, 937, 938, 939, 940, 941, 942, 943, 944, 945, 946, 947, 948, 949] rfl (by decide +kernel)
set_option maxRecDepth 20000 in
theorem gL_law_X10_is : GoodIn wsL_law (wsV RL 92 RX10 yX10_is wsX10_is) := goodIn_app (goodIn_of _ (by decide +kernel)) ggL_law_X10_is
set_option maxRecDepth 20000 in
theorem ggL_law_X9_disc : GoodIn wsL_law wsX9_disc := goodIn_r _ [718, 43, 23, 679, 680, 681, 42, 682, 683, 684, 685, 686, 510, 511, 22, 512, 405, 389, 390, 391, 64, 65, 513, 407, 408, 409, 63, 410, 402, 403, 404, 687, 595, 596, 597, 688, 587, 588, 589, 689, 690, 691, 692, 693, 207, 204, 208, 694, 474, 475, 695, 696, 444, 445, 446, 697, 448, 449, 450, 698, 719, 720, 721, 722, 723, 724, 725, 726, 727, 728, 729, 730, 923, 924, 925, 926, 927, 928, 929, 930, 931, 972, 973, 974, 961, 962, 963] rfl (by decide +kernel)
set_option maxRecDepth 20000 in
theorem gL_law_X9_disc : GoodIn wsL_law (wsV RL 93 RX9 yX9_disc wsX9_disc) := goodIn_app (goodIn_of _ (by decide +kernel)) ggL_law_X9_disc
set_option maxRecDepth 20000 in
theorem ggL_law_X10_disc : GoodIn wsL_law wsX10_disc := goodIn_r _ [734, 127, 306, 712, 713, 714, 130, 131, 5, 132, 707, 708, 709, 710, 101, 100, 711, 102, 542, 543, 544, 545, 423, 424, 425, 426, 932, 933, 934, 935, 936, 937, 938, 939, 940, 941, 942, 943, 944, 945, 946, 947, 948, 949] rfl (by decide +kernel)
set_option maxRecDepth 20000 in
theorem gL_law_X10_disc : GoodIn wsL_law (wsV RL 96 RX10 yX10_disc wsX10_disc) := goodIn_app (goodIn_of _ (by decide +kernel)) ggL_law_X10_disc
set_option maxRecDepth 20000 in
theorem ggL_law_X9_part : GoodIn wsL_law wsX9_part := goodIn_r _ [738, 23, 27, 401, 402, 403, 22, 404, 405, 389, 390, 391, 64, 65, 406, 407, 408, 409, 63, 410, 550, 551, 552, 553, 554, 470, 471, 26, 472, 473, 474, 204, 475, 69, 476, 477, 478, 479, 480, 70, 481, 444, 445, 446, 482, 448, 449, 450, 483, 455, 456, 457, 484, 739, 501, 502, 503, 923, 924, 925, 926, 927, 928, 929, 930, 931, 961, 962, 963, 964, 965, 966] rfl (by decide +kernel)
set_option maxRecDepth 20000 in
theorem gL_law_X9_part : GoodIn wsL_law (wsV RL 97 RX9 yX9_part wsX9_part) := goodIn_app (goodIn_of _ (by decide +kernel)) ggL_law_X9_part
set_option maxRecDepth 20000 in
theorem ggL_law_X10_part : GoodIn wsL_law wsX10_part := goodIn_r _ [743, 127, 104, 419, 420, 421, 5, 422, 423, 424, 425, 426, 100, 101, 130, 131, 132, 522, 523, 524, 525, 102, 103, 526, 527, 528, 529, 229, 230, 231, 530, 531, 532, 533, 932, 933, 934, 935, 936, 937, 938, 939, 940, 941, 942, 943, 944, 945, 946, 947, 948, 949] rfl (by decide +kernel)
set_option maxRecDepth 20000 in
theorem gL_law_X10_part : GoodIn wsL_law (wsV RL 100 RX10 yX10_part wsX10_part) := goodIn_app (goodIn_of _ (by decide +kernel)) ggL_law_X10_part
set_option maxRecDepth 20000 in
theorem ggL_law_X9_hull : GoodIn wsL_law wsX9_hull := goodIn_r _ [747, 35, 23, 580, 581, 582, 34, 583, 584, 585, 207, 204, 208, 79, 80, 586, 587, 588, 22, 589, 64, 590, 591, 592, 593, 594, 595, 596, 597, 65, 598, 569, 570, 571, 572, 455, 456, 457, 513, 407, 408, 409, 63, 410, 402, 403, 404, 405, 389, 390, 391, 599, 600, 601, 602, 603, 604, 605, 606, 607, 608, 609, 610, 748, 749, 750, 751, 923, 924, 925, 926, 927, 928, 929, 930, 931, 968, 969, 970, 961, 962, 963] rfl (by decide +kernel)
set_option maxRecDepth 20000 in
theorem gL_law_X9_hull : GoodIn wsL_law (wsV RL 101 RX9 yX9_hull wsX9_hull) := goodIn_app (goodIn_of _ (by decide +kernel)) ggL_law_X9_hull
set_option maxRecDepth 20000 in
theorem ggL_law_X10_hull : GoodIn wsL_law wsX10_hull := goodIn_r _ [755, 127, 651, 652, 653, 5, 654, 100, 101, 643, 644, 645, 646, 102, 518, 519, 520, 521, 130, 131, 132, 655, 656, 657, 658, 107, 659, 660, 661, 662, 932, 933, 934, 935, 936, 937, 938, 939, 940, 941, 942, 943, 944, 945, 946, 947, 948, 949] rfl (by decide +kernel)
set_option maxRecDepth 20000 in
theorem gL_law_X10_hull : GoodIn wsL_law (wsV RL 104 RX10 yX10_hull wsX10_hull) := goodIn_app (goodIn_of _ (by decide +kernel)) ggL_law_X10_hull
set_option maxRecDepth 20000 in
theorem ggL_law_X9_corner : GoodIn wsL_law wsX9_corner := goodIn_r _ [759, 35, 23, 580, 581, 582, 34, 583, 584, 585, 207, 204, 208, 79, 80, 586, 587, 588, 22, 589, 64, 590, 591, 592, 593, 594, 595, 596, 597, 65, 598, 569, 570, 571, 572, 455, 456, 457, 513, 407, 408, 409, 63, 410, 402, 403, 404, 405, 389, 390, 391, 599, 600, 601, 602, 603, 604, 605, 606, 607, 608, 609, 610, 748, 749, 750, 751, 760, 761, 762, 763, 764, 923, 924, 925, 926, 927, 928, 929, 930, 931, 968, 969, 970, 961, 962, 963] rfl (by decide +kernel)
set_option maxRecDepth 20000 in
theorem gL_law_X9_corner : GoodIn wsL_law (wsV RL 105 RX9 yX9_corner wsX9_corner) := goodIn_app (goodIn_of _ (by decide +kernel)) ggL_law_X9_corner
set_option maxRecDepth 20000 in
theorem ggL_law_X10_corner : GoodIn wsL_law wsX10_corner := goodIn_r _ [768, 127, 107, 651, 652, 653, 5, 654, 100, 101, 643, 644, 645, 646, 102, 518, 519, 520, 521, 130, 131, 132, 655, 656, 657, 658, 659, 660, 661, 662, 932, 933, 934, 935, 936, 937, 938, 939, 940, 941, 942, 943, 944, 945, 946, 947, 948, 949] rfl (by decide +kernel)
set_option maxRecDepth 20000 in
theorem gL_law_X10_corner : GoodIn wsL_law (wsV RL 108 RX10 yX10_corner wsX10_corner) := goodIn_app (goodIn_of _ (by decide +kernel)) ggL_law_X10_corner
set_option maxRecDepth 20000 in
theorem ggL_law_X9_deep : GoodIn wsL_law wsX9_deep := goodIn_r _ [772, 23, 39, 401, 402, 403, 22, 404, 405, 389, 390, 391, 64, 65, 773, 774, 775, 38, 776, 777, 474, 204, 475, 778, 407, 408, 409, 63, 410, 779, 444, 445, 446, 780, 448, 449, 450, 781, 587, 588, 589, 782, 595, 596, 597, 783, 569, 570, 571, 572, 455, 456, 457, 513, 923, 924, 925, 926, 927, 928, 929, 930, 931, 961, 962, 963] rfl (by decide +kernel)
set_option maxRecDepth 20000 in
theorem gL_law_X9_deep : GoodIn wsL_law (wsV RL 109 RX9 yX9_deep wsX9_deep) := goodIn_app (goodIn_of _ (by decide +kernel)) ggL_law_X9_deep
set_option maxRecDepth 20000 in
theorem ggL_law_X10_deep : GoodIn wsL_law wsX10_deep := goodIn_r _ [787, 127, 419, 420, 421, 5, 422, 423, 424, 425, 426, 100, 101, 130, 131, 132, 788, 789, 790, 791, 102, 711, 643, 644, 645, 646, 518, 519, 520, 521, 932, 933, 934, 935, 936, 937, 938, 939, 940, 941, 942, 943, 944, 945, 946, 947, 948, 949] rfl (by decide +kernel)
set_option maxRecDepth 20000 in
theorem gL_law_X10_deep : GoodIn wsL_law (wsV RL 112 RX10 yX10_deep wsX10_deep) := goodIn_app (goodIn_of _ (by decide +kernel)) ggL_law_X10_deep
set_option maxRecDepth 20000 in
theorem ggL_law_X9_deepest : GoodIn wsL_law wsX9_deepest := goodIn_r _ [795, 23, 39, 388, 389, 390, 22, 391, 64, 65, 773, 774, 775, 38, 776, 777, 474, 204, 475, 778, 407, 408, 409, 63, 410, 402, 403, 404, 405, 779, 444, 445, 446, 780, 448, 449, 450, 781, 587, 588, 589, 782, 595, 596, 597, 783, 569, 570, 571, 572, 455, 456, 457, 513, 923, 924, 925, 926, 927, 928, 929, 930, 931, 961, 962, 963] rfl (by decide +kernel)
set_option maxRecDepth 20000 in
theorem gL_law_X9_deepest : GoodIn wsL_law (wsV RL 113 RX9 yX9_deepest wsX9_deepest) := goodIn_app (goodIn_of _ (by decide +kernel)) ggL_law_X9_deepest
set_option maxRecDepth 20000 in
theorem ggL_law_X10_deepest : GoodIn wsL_law wsX10_deepest := goodIn_r _ [799, 127, 423, 424, 425, 5, 426, 100, 101, 788, 789, 790, 791, 102, 711, 643, 644, 645, 646, 518, 519, 520, 521, 130, 131, 132, 932, 933, 934, 935, 936, 937, 938, 939, 940, 941, 942, 943, 944, 945, 946, 947, 948, 949] rfl (by decide +kernel)
set_option maxRecDepth 20000 in
theorem gL_law_X10_deepest : GoodIn wsL_law (wsV RL 116 RX10 yX10_deepest wsX10_deepest) := goodIn_app (goodIn_of _ (by decide +kernel)) ggL_law_X10_deepest
set_option maxRecDepth 20000 in
theorem ggL_law_X9_needed : GoodIn wsL_law wsX9_needed := goodIn_r _ [803, 23, 39, 401, 402, 403, 22, 404, 405, 389, 390, 391, 64, 65, 804, 805, 806, 38, 807, 84, 808, 809, 774, 775, 776, 777, 474, 204, 475, 778, 407, 408, 409, 63, 410, 779, 444, 445, 446, 780, 448, 449, 450, 781, 587, 588, 589, 782, 595, 596, 597, 783, 569, 570, 571, 572, 455, 456, 457, 513, 810, 811, 812, 813, 814, 815, 816, 817, 923, 924, 925, 926, 927, 928, 929, 930, 931, 961, 962, 963, 971] rfl (by decide +kernel)
set_option maxRecDepth 20000 in
theorem gL_law_X9_needed : GoodIn wsL_law (wsV RL 117 RX9 yX9_needed wsX9_needed) := goodIn_app (goodIn_of _ (by decide +kernel)) ggL_law_X9_needed
set_option maxRecDepth 20000 in
theorem ggL_law_X10_needed : GoodIn wsL_law wsX10_needed := goodIn_r _ [821, 127, 419, 420, 421, 5, 422, 423, 424, 425, 426, 100, 101, 130, 131, 132, 822, 823, 824, 825, 105, 788, 789, 790, 791, 102, 711, 643, 644, 645, 646, 518, 519, 520, 521, 826, 827, 828, 829, 830, 932, 933, 934, 935, 936, 937, 938, 939, 940, 941, 942, 943, 944, 945, 946, 947, 948, 949] rfl (by decide +kernel)
set_option maxRecDepth 20000 in
theorem gL_law_X10_needed : GoodIn wsL_law (wsV RL 120 RX10 yX10_needed wsX10_needed) := goodIn_app (goodIn_of _ (by decide +kernel)) ggL_law_X10_needed
set_option maxRecDepth 20000 in
theorem ggL_law_X9_balls : GoodIn wsL_law wsX9_balls := goodIn_r _ [834, 39, 23, 804, 805, 806, 38, 807, 84, 808, 389, 390, 22, 391, 64, 65, 809, 774, 775, 776, 777, 474, 204, 475, 778, 407, 408, 409, 63, 410, 402, 403, 404, 405, 779, 444, 445, 446, 780, 448, 449, 450, 781, 587, 588, 589, 782, 595, 596, 597, 783, 569, 570, 571, 572, 455, 456, 457, 513, 388, 810, 811, 812, 813, 814, 815, 816, 817, 923, 924, 925, 926, 927, 928, 929, 930, 931, 971, 961, 962, 963] rfl (by decide +kernel)
set_option maxRecDepth 20000 in
theorem gL_law_X9_balls : GoodIn wsL_law (wsV RL 121 RX9 yX9_balls wsX9_balls) := goodIn_app (goodIn_of _ (by decide +kernel)) ggL_law_X9_balls
set_option maxRecDepth 20000 in
theorem ggL_law_X10_balls : GoodIn wsL_law wsX10_balls := goodIn_r _ [838, 127, 822, 823, 824, 5, 825, 105, 423, 424, 425, 426, 100, 101, 788, 789, 790, 791, 102, 711, 643, 644, 645, 646, 518, 519, 520, 521, 130, 131, 132, 826, 827, 828, 829, 830, 932, 933, 934, 935, 936, 937, 938, 939, 940, 941, 942, 943, 944, 945, 946, 947, 948, 949] rfl (by decide +kernel)
set_option maxRecDepth 20000 in
theorem gL_law_X10_balls : GoodIn wsL_law (wsV RL 124 RX10 yX10_balls wsX10_balls) := goodIn_app (goodIn_of _ (by decide +kernel)) ggL_law_X10_balls
set_option maxRecDepth 20000 in
theorem ggL_law_X9_loose : GoodIn wsL_law wsX9_loose := goodIn_r _ [842, 23, 47, 401, 402, 403, 22, 404, 405, 389, 390, 391, 64, 65, 843, 844, 845, 46, 846, 847, 407, 408, 409, 63, 410, 848, 565, 566, 567, 493, 444, 445, 446, 494, 448, 449, 450, 568, 569, 570, 571, 572, 455, 456, 457, 513, 849, 850, 851, 852, 853, 854, 855, 856, 857, 923, 924, 925, 926, 927, 928, 929, 930, 931, 961, 962, 963] rfl (by decide +kernel)
set_option maxRecDepth 20000 in
theorem gL_law_X9_loose : GoodIn wsL_law (wsV RL 125 RX9 yX9_loose wsX9_loose) := goodIn_app (goodIn_of _ (by decide +kernel)) ggL_law_X9_loose
set_option maxRecDepth 20000 in
theorem ggL_law_X10_loose : GoodIn wsL_law wsX10_loose := goodIn_r _ [861, 127, 419, 420, 421, 5, 422, 423, 424, 425, 426, 100, 101, 130, 131, 132, 862, 863, 864, 865, 102, 866, 867, 868, 869, 108, 643, 644, 645, 646, 518, 519, 520, 521, 870, 871, 872, 873, 109, 229, 230, 231, 932, 933, 934, 935, 936, 937, 938, 939, 940, 941, 942, 943, 944, 945, 946, 947, 948, 949] rfl (by decide +kernel)
set_option maxRecDepth 20000 in
theorem gL_law_X10_loose : GoodIn wsL_law (wsV RL 128 RX10 yX10_loose wsX10_loose) := goodIn_app (goodIn_of _ (by decide +kernel)) ggL_law_X10_loose
set_option maxRecDepth 20000 in
theorem ggL_law_X9_thinning : GoodIn wsL_law wsX9_thinning := goodIn_r _ [877, 47, 23, 878, 879, 880, 46, 881, 91, 882, 389, 390, 22, 391, 64, 65, 847, 407, 408, 409, 63, 410, 402, 403, 404, 405, 848, 565, 566, 567, 493, 444, 445, 446, 494, 448, 449, 450, 568, 569, 570, 571, 572, 455, 456, 457, 513, 883, 884, 885, 886, 574, 575, 576, 577, 578, 579, 849, 850, 851, 852, 853, 854, 855, 856, 857, 887, 412, 413, 414, 923, 924, 925, 926, 927, 928, 929, 930, 931, 975, 961, 962, 963] rfl (by decide +kernel)
set_option maxRecDepth 20000 in
theorem gL_law_X9_thinning : GoodIn wsL_law (wsV RL 129 RX9 yX9_thinning wsX9_thinning) := goodIn_app (goodIn_of _ (by decide +kernel)) ggL_law_X9_thinning
set_option maxRecDepth 20000 in
theorem ggL_law_X10_thinning : GoodIn wsL_law wsX10_thinning := goodIn_r _ [891, 127, 892, 893, 894, 5, 895, 100, 106, 102, 423, 424, 425, 426, 101, 643, 644, 645, 646, 518, 519, 520, 521, 130, 131, 132, 862, 863, 864, 865, 866, 867, 868, 869, 108, 870, 871, 872, 873, 109, 229, 230, 231, 932, 933, 934, 935, 936, 937, 938, 939, 940, 941, 942, 943, 944, 945, 946, 947, 948, 949] rfl (by decide +kernel)
set_option maxRecDepth 20000 in
theorem gL_law_X10_thinning : GoodIn wsL_law (wsV RL 132 RX10 yX10_thinning wsX10_thinning) := goodIn_app (goodIn_of _ (by decide +kernel)) ggL_law_X10_thinning
set_option maxRecDepth 20000 in
theorem ggL_law_X9_thin : GoodIn wsL_law wsX9_thin := goodIn_r _ [899, 47, 23, 878, 879, 880, 46, 881, 91, 882, 389, 390, 22, 391, 64, 65, 847, 407, 408, 409, 63, 410, 402, 403, 404, 405, 848, 565, 566, 567, 493, 444, 445, 446, 494, 448, 449, 450, 568, 569, 570, 571, 572, 455, 456, 457, 513, 883, 884, 885, 886, 574, 575, 576, 577, 578, 579, 849, 850, 851, 852, 853, 854, 855, 856, 857, 887, 412, 413, 414, 923, 924, 925, 926, 927, 928, 929, 930, 931, 975, 961, 962, 963] rfl (by decide +kernel)
set_option maxRecDepth 20000 in
theorem gL_law_X9_thin : GoodIn wsL_law (wsV RL 133 RX9 yX9_thin wsX9_thin) := goodIn_app (goodIn_of _ (by decide +kernel)) ggL_law_X9_thin
set_option maxRecDepth 20000 in
theorem ggL_law_X10_thin : GoodIn wsL_law wsX10_thin := goodIn_r _ [903, 127, 892, 893, 894, 5, 895, 100, 106, 102, 423, 424, 425, 426, 101, 643, 644, 645, 646, 518, 519, 520, 521, 130, 131, 132, 862, 863, 864, 865, 866, 867, 868, 869, 108, 870, 871, 872, 873, 109, 229, 230, 231, 932, 933, 934, 935, 936, 937, 938, 939, 940, 941, 942, 943, 944, 945, 946, 947, 948, 949] rfl (by decide +kernel)
set_option maxRecDepth 20000 in
theorem gL_law_X10_thin : GoodIn wsL_law (wsV RL 136 RX10 yX10_thin wsX10_thin) := goodIn_app (goodIn_of _ (by decide +kernel)) ggL_law_X10_thin
set_option maxRecDepth 20000 in
theorem ggL_law_X9_count : GoodIn wsL_law wsX9_count := goodIn_r _ [907, 15, 23, 114, 115, 116, 14, 117, 118, 908, 587, 588, 22, 589, 64, 909, 595, 596, 597, 65, 910, 911, 912, 913, 52, 914, 915, 916, 917, 405, 389, 390, 391, 513, 407, 408, 409, 63, 410, 402, 403, 404, 918, 490, 491, 492, 493, 444, 445, 446, 494, 448, 449, 450, 923, 924, 925, 926, 927, 928, 929, 930, 931, 950, 951, 952, 953, 961, 962, 963] rfl (by decide +kernel)
set_option maxRecDepth 20000 in
theorem gL_law_X9_count : GoodIn wsL_law (wsV RL 137 RX9 yX9_count wsX9_count) := goodIn_app (goodIn_of _ (by decide +kernel)) ggL_law_X9_count
set_option maxRecDepth 20000 in
theorem ggL_law_X10_count : GoodIn wsL_law wsX10_count := goodIn_r _ [922, 127, 129, 96, 102, 100, 101, 423, 424, 425, 5, 426, 538, 539, 540, 541, 932, 933, 934, 935, 936, 937, 938, 939, 940, 941, 942, 943, 944, 945, 946, 947, 948, 949] rfl (by decide +kernel)
set_option maxRecDepth 20000 in
theorem gL_law_X10_count : GoodIn wsL_law (wsV RL 140 RX10 yX10_count wsX10_count) := goodIn_app (goodIn_of _ (by decide +kernel)) ggL_law_X10_count
theorem dL_law_0 : decode cL_law 0 = .ok (.new 7, 3) := by decide +kernel
theorem dL_law_3 : decode cL_law 3 = .ok (.dup, 1) := by decide +kernel
theorem dL_law_4 : decode cL_law 4 = .ok (.invokespecial 9, 3) := by decide +kernel
theorem dL_law_7 : decode cL_law 7 = .ok (.astore_n 1, 1) := by decide +kernel
theorem dL_law_8 : decode cL_law 8 = .ok (.new 10, 3) := by decide +kernel
theorem dL_law_11 : decode cL_law 11 = .ok (.dup, 1) := by decide +kernel
theorem dL_law_12 : decode cL_law 12 = .ok (.invokespecial 12, 3) := by decide +kernel
theorem dL_law_15 : decode cL_law 15 = .ok (.astore_n 2, 1) := by decide +kernel
theorem dL_law_16 : decode cL_law 16 = .ok (.iconst 0, 1) := by decide +kernel
theorem dL_law_17 : decode cL_law 17 = .ok (.istore_n 3, 1) := by decide +kernel
theorem dL_law_18 : decode cL_law 18 = .ok (.iload_n 3, 1) := by decide +kernel
theorem dL_law_19 : decode cL_law 19 = .ok (.aload_n 0, 1) := by decide +kernel
theorem dL_law_20 : decode cL_law 20 = .ok (.arraylength, 1) := by decide +kernel
theorem dL_law_21 : decode cL_law 21 = .ok (.iconst 5, 1) := by decide +kernel
theorem dL_law_22 : decode cL_law 22 = .ok (.isub, 1) := by decide +kernel
theorem dL_law_23 : decode cL_law 23 = .ok (.if_icmp .gt 1049, 3) := by decide +kernel
theorem dL_law_26 : decode cL_law 26 = .ok (.aload_n 0, 1) := by decide +kernel
theorem dL_law_27 : decode cL_law 27 = .ok (.iload_n 3, 1) := by decide +kernel
theorem dL_law_28 : decode cL_law 28 = .ok (.iaload, 1) := by decide +kernel
theorem dL_law_29 : decode cL_law 29 = .ok (.bipush 31, 2) := by decide +kernel
theorem dL_law_31 : decode cL_law 31 = .ok (.iand, 1) := by decide +kernel
theorem dL_law_32 : decode cL_law 32 = .ok (.tableswitch 1034 0 29 #[136, 159, 182, 205, 254, 287, 330, 363, 448, 507, 546, 559, 582, 615, 664, 687, 736, 759, 782, 805, 828, 841, 864, 887, 926, 949, 962, 985, 998, 1011], 136) := by decide +kernel
theorem dL_law_168 : decode cL_law 168 = .ok (.aload_n 1, 1) := by decide +kernel
theorem dL_law_169 : decode cL_law 169 = .ok (.aload_n 0, 1) := by decide +kernel
theorem dL_law_170 : decode cL_law 170 = .ok (.iload_n 3, 1) := by decide +kernel
theorem dL_law_171 : decode cL_law 171 = .ok (.iconst 1, 1) := by decide +kernel
theorem dL_law_172 : decode cL_law 172 = .ok (.iadd, 1) := by decide +kernel
theorem dL_law_173 : decode cL_law 173 = .ok (.iaload, 1) := by decide +kernel
theorem dL_law_174 : decode cL_law 174 = .ok (.invokevirtual 13, 3) := by decide +kernel
theorem dL_law_177 : decode cL_law 177 = .ok (.aload_n 2, 1) := by decide +kernel
theorem dL_law_178 : decode cL_law 178 = .ok (.aload_n 0, 1) := by decide +kernel
theorem dL_law_179 : decode cL_law 179 = .ok (.iload_n 3, 1) := by decide +kernel
theorem dL_law_180 : decode cL_law 180 = .ok (.iconst 1, 1) := by decide +kernel
theorem dL_law_181 : decode cL_law 181 = .ok (.iadd, 1) := by decide +kernel
theorem dL_law_182 : decode cL_law 182 = .ok (.iaload, 1) := by decide +kernel
theorem dL_law_183 : decode cL_law 183 = .ok (.invokevirtual 17, 3) := by decide +kernel
theorem dL_law_186 : decode cL_law 186 = .ok (.if_icmp .eq 880, 3) := by decide +kernel
theorem dL_law_189 : decode cL_law 189 = .ok (.iconst 0, 1) := by decide +kernel
theorem dL_law_190 : decode cL_law 190 = .ok (.ireturn, 1) := by decide +kernel
theorem dL_law_191 : decode cL_law 191 = .ok (.aload_n 1, 1) := by decide +kernel
theorem dL_law_192 : decode cL_law 192 = .ok (.aload_n 0, 1) := by decide +kernel
theorem dL_law_193 : decode cL_law 193 = .ok (.iload_n 3, 1) := by decide +kernel
theorem dL_law_194 : decode cL_law 194 = .ok (.iconst 1, 1) := by decide +kernel
theorem dL_law_195 : decode cL_law 195 = .ok (.iadd, 1) := by decide +kernel
theorem dL_law_196 : decode cL_law 196 = .ok (.iaload, 1) := by decide +kernel
theorem dL_law_197 : decode cL_law 197 = .ok (.invokevirtual 18, 3) := by decide +kernel
theorem dL_law_200 : decode cL_law 200 = .ok (.aload_n 2, 1) := by decide +kernel
theorem dL_law_201 : decode cL_law 201 = .ok (.aload_n 0, 1) := by decide +kernel
theorem dL_law_202 : decode cL_law 202 = .ok (.iload_n 3, 1) := by decide +kernel
theorem dL_law_203 : decode cL_law 203 = .ok (.iconst 1, 1) := by decide +kernel
theorem dL_law_204 : decode cL_law 204 = .ok (.iadd, 1) := by decide +kernel
theorem dL_law_205 : decode cL_law 205 = .ok (.iaload, 1) := by decide +kernel
theorem dL_law_206 : decode cL_law 206 = .ok (.invokevirtual 21, 3) := by decide +kernel
theorem dL_law_209 : decode cL_law 209 = .ok (.if_icmp .eq 857, 3) := by decide +kernel
theorem dL_law_212 : decode cL_law 212 = .ok (.iconst 0, 1) := by decide +kernel
theorem dL_law_213 : decode cL_law 213 = .ok (.ireturn, 1) := by decide +kernel
theorem dL_law_214 : decode cL_law 214 = .ok (.aload_n 1, 1) := by decide +kernel
theorem dL_law_215 : decode cL_law 215 = .ok (.aload_n 0, 1) := by decide +kernel
theorem dL_law_216 : decode cL_law 216 = .ok (.iload_n 3, 1) := by decide +kernel
theorem dL_law_217 : decode cL_law 217 = .ok (.iconst 1, 1) := by decide +kernel
theorem dL_law_218 : decode cL_law 218 = .ok (.iadd, 1) := by decide +kernel
theorem dL_law_219 : decode cL_law 219 = .ok (.iaload, 1) := by decide +kernel
theorem dL_law_220 : decode cL_law 220 = .ok (.invokevirtual 22, 3) := by decide +kernel
theorem dL_law_223 : decode cL_law 223 = .ok (.aload_n 2, 1) := by decide +kernel
theorem dL_law_224 : decode cL_law 224 = .ok (.aload_n 0, 1) := by decide +kernel
theorem dL_law_225 : decode cL_law 225 = .ok (.iload_n 3, 1) := by decide +kernel
theorem dL_law_226 : decode cL_law 226 = .ok (.iconst 1, 1) := by decide +kernel
theorem dL_law_227 : decode cL_law 227 = .ok (.iadd, 1) := by decide +kernel
theorem dL_law_228 : decode cL_law 228 = .ok (.iaload, 1) := by decide +kernel
theorem dL_law_229 : decode cL_law 229 = .ok (.invokevirtual 25, 3) := by decide +kernel
theorem dL_law_232 : decode cL_law 232 = .ok (.if_icmp .eq 834, 3) := by decide +kernel
theorem dL_law_235 : decode cL_law 235 = .ok (.iconst 0, 1) := by decide +kernel
theorem dL_law_236 : decode cL_law 236 = .ok (.ireturn, 1) := by decide +kernel
theorem dL_law_237 : decode cL_law 237 = .ok (.aload_n 1, 1) := by decide +kernel
theorem dL_law_238 : decode cL_law 238 = .ok (.aload_n 0, 1) := by decide +kernel
theorem dL_law_239 : decode cL_law 239 = .ok (.iload_n 3, 1) := by decide +kernel
theorem dL_law_240 : decode cL_law 240 = .ok (.iconst 1, 1) := by decide +kernel
theorem dL_law_241 : decode cL_law 241 = .ok (.iadd, 1) := by decide +kernel
theorem dL_law_242 : decode cL_law 242 = .ok (.iaload, 1) := by decide +kernel
theorem dL_law_243 : decode cL_law 243 = .ok (.aload_n 0, 1) := by decide +kernel
theorem dL_law_244 : decode cL_law 244 = .ok (.iload_n 3, 1) := by decide +kernel
theorem dL_law_245 : decode cL_law 245 = .ok (.iconst 2, 1) := by decide +kernel
theorem dL_law_246 : decode cL_law 246 = .ok (.iadd, 1) := by decide +kernel
theorem dL_law_247 : decode cL_law 247 = .ok (.iaload, 1) := by decide +kernel
theorem dL_law_248 : decode cL_law 248 = .ok (.ifCond .eq 7, 3) := by decide +kernel
theorem dL_law_251 : decode cL_law 251 = .ok (.iconst 1, 1) := by decide +kernel
theorem dL_law_252 : decode cL_law 252 = .ok (.goto 4, 3) := by decide +kernel
theorem dL_law_255 : decode cL_law 255 = .ok (.iconst 0, 1) := by decide +kernel
theorem dL_law_256 : decode cL_law 256 = .ok (.invokevirtual 26, 3) := by decide +kernel
theorem dL_law_259 : decode cL_law 259 = .ok (.aload_n 2, 1) := by decide +kernel
theorem dL_law_260 : decode cL_law 260 = .ok (.aload_n 0, 1) := by decide +kernel
theorem dL_law_261 : decode cL_law 261 = .ok (.iload_n 3, 1) := by decide +kernel
theorem dL_law_262 : decode cL_law 262 = .ok (.iconst 1, 1) := by decide +kernel
theorem dL_law_263 : decode cL_law 263 = .ok (.iadd, 1) := by decide +kernel
theorem dL_law_264 : decode cL_law 264 = .ok (.iaload, 1) := by decide +kernel
theorem dL_law_265 : decode cL_law 265 = .ok (.aload_n 0, 1) := by decide +kernel
theorem dL_law_266 : decode cL_law 266 = .ok (.iload_n 3, 1) := by decide +kernel
theorem dL_law_267 : decode cL_law 267 = .ok (.iconst 2, 1) := by decide +kernel
theorem dL_law_268 : decode cL_law 268 = .ok (.iadd, 1) := by decide +kernel
theorem dL_law_269 : decode cL_law 269 = .ok (.iaload, 1) := by decide +kernel
theorem dL_law_270 : decode cL_law 270 = .ok (.ifCond .eq 7, 3) := by decide +kernel
theorem dL_law_273 : decode cL_law 273 = .ok (.iconst 1, 1) := by decide +kernel
theorem dL_law_274 : decode cL_law 274 = .ok (.goto 4, 3) := by decide +kernel
theorem dL_law_277 : decode cL_law 277 = .ok (.iconst 0, 1) := by decide +kernel
theorem dL_law_278 : decode cL_law 278 = .ok (.invokevirtual 30, 3) := by decide +kernel
theorem dL_law_281 : decode cL_law 281 = .ok (.if_icmp .eq 785, 3) := by decide +kernel
theorem dL_law_284 : decode cL_law 284 = .ok (.iconst 0, 1) := by decide +kernel
theorem dL_law_285 : decode cL_law 285 = .ok (.ireturn, 1) := by decide +kernel
theorem dL_law_286 : decode cL_law 286 = .ok (.aload_n 1, 1) := by decide +kernel
theorem dL_law_287 : decode cL_law 287 = .ok (.aload_n 0, 1) := by decide +kernel
theorem dL_law_288 : decode cL_law 288 = .ok (.iload_n 3, 1) := by decide +kernel
theorem dL_law_289 : decode cL_law 289 = .ok (.iconst 1, 1) := by decide +kernel
theorem dL_law_290 : decode cL_law 290 = .ok (.iadd, 1) := by decide +kernel
theorem dL_law_291 : decode cL_law 291 = .ok (.iaload, 1) := by decide +kernel
theorem dL_law_292 : decode cL_law 292 = .ok (.aload_n 0, 1) := by decide +kernel
theorem dL_law_293 : decode cL_law 293 = .ok (.iload_n 3, 1) := by decide +kernel
theorem dL_law_294 : decode cL_law 294 = .ok (.iconst 2, 1) := by decide +kernel
theorem dL_law_295 : decode cL_law 295 = .ok (.iadd, 1) := by decide +kernel
theorem dL_law_296 : decode cL_law 296 = .ok (.iaload, 1) := by decide +kernel
theorem dL_law_297 : decode cL_law 297 = .ok (.invokevirtual 31, 3) := by decide +kernel
theorem dL_law_300 : decode cL_law 300 = .ok (.aload_n 2, 1) := by decide +kernel
theorem dL_law_301 : decode cL_law 301 = .ok (.aload_n 0, 1) := by decide +kernel
theorem dL_law_302 : decode cL_law 302 = .ok (.iload_n 3, 1) := by decide +kernel
theorem dL_law_303 : decode cL_law 303 = .ok (.iconst 1, 1) := by decide +kernel
theorem dL_law_304 : decode cL_law 304 = .ok (.iadd, 1) := by decide +kernel
theorem dL_law_305 : decode cL_law 305 = .ok (.iaload, 1) := by decide +kernel
theorem dL_law_306 : decode cL_law 306 = .ok (.aload_n 0, 1) := by decide +kernel
theorem dL_law_307 : decode cL_law 307 = .ok (.iload_n 3, 1) := by decide +kernel
theorem dL_law_308 : decode cL_law 308 = .ok (.iconst 2, 1) := by decide +kernel
theorem dL_law_309 : decode cL_law 309 = .ok (.iadd, 1) := by decide +kernel
theorem dL_law_310 : decode cL_law 310 = .ok (.iaload, 1) := by decide +kernel
theorem dL_law_311 : decode cL_law 311 = .ok (.invokevirtual 35, 3) := by decide +kernel
theorem dL_law_314 : decode cL_law 314 = .ok (.if_icmp .eq 752, 3) := by decide +kernel
theorem dL_law_317 : decode cL_law 317 = .ok (.iconst 0, 1) := by decide +kernel
theorem dL_law_318 : decode cL_law 318 = .ok (.ireturn, 1) := by decide +kernel
theorem dL_law_319 : decode cL_law 319 = .ok (.aload_n 1, 1) := by decide +kernel
theorem dL_law_320 : decode cL_law 320 = .ok (.aload_n 0, 1) := by decide +kernel
theorem dL_law_321 : decode cL_law 321 = .ok (.iload_n 3, 1) := by decide +kernel
theorem dL_law_322 : decode cL_law 322 = .ok (.iconst 1, 1) := by decide +kernel
theorem dL_law_323 : decode cL_law 323 = .ok (.iadd, 1) := by decide +kernel
theorem dL_law_324 : decode cL_law 324 = .ok (.iaload, 1) := by decide +kernel
theorem dL_law_325 : decode cL_law 325 = .ok (.aload_n 0, 1) := by decide +kernel
theorem dL_law_326 : decode cL_law 326 = .ok (.iload_n 3, 1) := by decide +kernel
theorem dL_law_327 : decode cL_law 327 = .ok (.iconst 2, 1) := by decide +kernel
theorem dL_law_328 : decode cL_law 328 = .ok (.iadd, 1) := by decide +kernel
theorem dL_law_329 : decode cL_law 329 = .ok (.iaload, 1) := by decide +kernel
theorem dL_law_330 : decode cL_law 330 = .ok (.aload_n 0, 1) := by decide +kernel
theorem dL_law_331 : decode cL_law 331 = .ok (.iload_n 3, 1) := by decide +kernel
theorem dL_law_332 : decode cL_law 332 = .ok (.iconst 3, 1) := by decide +kernel
theorem dL_law_333 : decode cL_law 333 = .ok (.iadd, 1) := by decide +kernel
theorem dL_law_334 : decode cL_law 334 = .ok (.iaload, 1) := by decide +kernel
theorem dL_law_335 : decode cL_law 335 = .ok (.invokevirtual 36, 3) := by decide +kernel
theorem dL_law_338 : decode cL_law 338 = .ok (.aload_n 2, 1) := by decide +kernel
theorem dL_law_339 : decode cL_law 339 = .ok (.aload_n 0, 1) := by decide +kernel
theorem dL_law_340 : decode cL_law 340 = .ok (.iload_n 3, 1) := by decide +kernel
theorem dL_law_341 : decode cL_law 341 = .ok (.iconst 1, 1) := by decide +kernel
theorem dL_law_342 : decode cL_law 342 = .ok (.iadd, 1) := by decide +kernel
theorem dL_law_343 : decode cL_law 343 = .ok (.iaload, 1) := by decide +kernel
theorem dL_law_344 : decode cL_law 344 = .ok (.aload_n 0, 1) := by decide +kernel
theorem dL_law_345 : decode cL_law 345 = .ok (.iload_n 3, 1) := by decide +kernel
theorem dL_law_346 : decode cL_law 346 = .ok (.iconst 2, 1) := by decide +kernel
theorem dL_law_347 : decode cL_law 347 = .ok (.iadd, 1) := by decide +kernel
theorem dL_law_348 : decode cL_law 348 = .ok (.iaload, 1) := by decide +kernel
theorem dL_law_349 : decode cL_law 349 = .ok (.aload_n 0, 1) := by decide +kernel
theorem dL_law_350 : decode cL_law 350 = .ok (.iload_n 3, 1) := by decide +kernel
theorem dL_law_351 : decode cL_law 351 = .ok (.iconst 3, 1) := by decide +kernel
theorem dL_law_352 : decode cL_law 352 = .ok (.iadd, 1) := by decide +kernel
theorem dL_law_353 : decode cL_law 353 = .ok (.iaload, 1) := by decide +kernel
theorem dL_law_354 : decode cL_law 354 = .ok (.invokevirtual 40, 3) := by decide +kernel
theorem dL_law_357 : decode cL_law 357 = .ok (.if_icmp .eq 709, 3) := by decide +kernel
theorem dL_law_360 : decode cL_law 360 = .ok (.iconst 0, 1) := by decide +kernel
theorem dL_law_361 : decode cL_law 361 = .ok (.ireturn, 1) := by decide +kernel
theorem dL_law_362 : decode cL_law 362 = .ok (.aload_n 1, 1) := by decide +kernel
theorem dL_law_363 : decode cL_law 363 = .ok (.aload_n 0, 1) := by decide +kernel
theorem dL_law_364 : decode cL_law 364 = .ok (.iload_n 3, 1) := by decide +kernel
theorem dL_law_365 : decode cL_law 365 = .ok (.iconst 1, 1) := by decide +kernel
theorem dL_law_366 : decode cL_law 366 = .ok (.iadd, 1) := by decide +kernel
theorem dL_law_367 : decode cL_law 367 = .ok (.iaload, 1) := by decide +kernel
theorem dL_law_368 : decode cL_law 368 = .ok (.aload_n 0, 1) := by decide +kernel
theorem dL_law_369 : decode cL_law 369 = .ok (.iload_n 3, 1) := by decide +kernel
theorem dL_law_370 : decode cL_law 370 = .ok (.iconst 2, 1) := by decide +kernel
theorem dL_law_371 : decode cL_law 371 = .ok (.iadd, 1) := by decide +kernel
theorem dL_law_372 : decode cL_law 372 = .ok (.iaload, 1) := by decide +kernel
theorem dL_law_373 : decode cL_law 373 = .ok (.invokevirtual 41, 3) := by decide +kernel
theorem dL_law_376 : decode cL_law 376 = .ok (.aload_n 2, 1) := by decide +kernel
theorem dL_law_377 : decode cL_law 377 = .ok (.aload_n 0, 1) := by decide +kernel
theorem dL_law_378 : decode cL_law 378 = .ok (.iload_n 3, 1) := by decide +kernel
theorem dL_law_379 : decode cL_law 379 = .ok (.iconst 1, 1) := by decide +kernel
theorem dL_law_380 : decode cL_law 380 = .ok (.iadd, 1) := by decide +kernel
theorem dL_law_381 : decode cL_law 381 = .ok (.iaload, 1) := by decide +kernel
theorem dL_law_382 : decode cL_law 382 = .ok (.aload_n 0, 1) := by decide +kernel
theorem dL_law_383 : decode cL_law 383 = .ok (.iload_n 3, 1) := by decide +kernel
theorem dL_law_384 : decode cL_law 384 = .ok (.iconst 2, 1) := by decide +kernel
theorem dL_law_385 : decode cL_law 385 = .ok (.iadd, 1) := by decide +kernel
theorem dL_law_386 : decode cL_law 386 = .ok (.iaload, 1) := by decide +kernel
theorem dL_law_387 : decode cL_law 387 = .ok (.invokevirtual 44, 3) := by decide +kernel
theorem dL_law_390 : decode cL_law 390 = .ok (.if_icmp .eq 676, 3) := by decide +kernel
theorem dL_law_393 : decode cL_law 393 = .ok (.iconst 0, 1) := by decide +kernel
theorem dL_law_394 : decode cL_law 394 = .ok (.ireturn, 1) := by decide +kernel
theorem dL_law_395 : decode cL_law 395 = .ok (.aload_n 1, 1) := by decide +kernel
theorem dL_law_396 : decode cL_law 396 = .ok (.aload_n 0, 1) := by decide +kernel
theorem dL_law_397 : decode cL_law 397 = .ok (.iload_n 3, 1) := by decide +kernel
theorem dL_law_398 : decode cL_law 398 = .ok (.iconst 1, 1) := by decide +kernel
theorem dL_law_399 : decode cL_law 399 = .ok (.iadd, 1) := by decide +kernel
theorem dL_law_400 : decode cL_law 400 = .ok (.iaload, 1) := by decide +kernel
theorem dL_law_401 : decode cL_law 401 = .ok (.aload_n 0, 1) := by decide +kernel
theorem dL_law_402 : decode cL_law 402 = .ok (.iload_n 3, 1) := by decide +kernel
theorem dL_law_403 : decode cL_law 403 = .ok (.iconst 2, 1) := by decide +kernel
theorem dL_law_404 : decode cL_law 404 = .ok (.iadd, 1) := by decide +kernel
theorem dL_law_405 : decode cL_law 405 = .ok (.iaload, 1) := by decide +kernel
theorem dL_law_406 : decode cL_law 406 = .ok (.aload_n 0, 1) := by decide +kernel
theorem dL_law_407 : decode cL_law 407 = .ok (.iload_n 3, 1) := by decide +kernel
theorem dL_law_408 : decode cL_law 408 = .ok (.iconst 3, 1) := by decide +kernel
theorem dL_law_409 : decode cL_law 409 = .ok (.iadd, 1) := by decide +kernel
theorem dL_law_410 : decode cL_law 410 = .ok (.iaload, 1) := by decide +kernel
theorem dL_law_411 : decode cL_law 411 = .ok (.ifCond .eq 7, 3) := by decide +kernel
theorem dL_law_414 : decode cL_law 414 = .ok (.iconst 1, 1) := by decide +kernel
theorem dL_law_415 : decode cL_law 415 = .ok (.goto 4, 3) := by decide +kernel
theorem dL_law_418 : decode cL_law 418 = .ok (.iconst 0, 1) := by decide +kernel
theorem dL_law_419 : decode cL_law 419 = .ok (.aload_n 0, 1) := by decide +kernel
theorem dL_law_420 : decode cL_law 420 = .ok (.iload_n 3, 1) := by decide +kernel
theorem dL_law_421 : decode cL_law 421 = .ok (.iconst 4, 1) := by decide +kernel
theorem dL_law_422 : decode cL_law 422 = .ok (.iadd, 1) := by decide +kernel
theorem dL_law_423 : decode cL_law 423 = .ok (.iaload, 1) := by decide +kernel
theorem dL_law_424 : decode cL_law 424 = .ok (.ifCond .eq 7, 3) := by decide +kernel
theorem dL_law_427 : decode cL_law 427 = .ok (.iconst 1, 1) := by decide +kernel
theorem dL_law_428 : decode cL_law 428 = .ok (.goto 4, 3) := by decide +kernel
theorem dL_law_431 : decode cL_law 431 = .ok (.iconst 0, 1) := by decide +kernel
theorem dL_law_432 : decode cL_law 432 = .ok (.invokevirtual 45, 3) := by decide +kernel
theorem dL_law_435 : decode cL_law 435 = .ok (.aload_n 2, 1) := by decide +kernel
theorem dL_law_436 : decode cL_law 436 = .ok (.aload_n 0, 1) := by decide +kernel
theorem dL_law_437 : decode cL_law 437 = .ok (.iload_n 3, 1) := by decide +kernel
theorem dL_law_438 : decode cL_law 438 = .ok (.iconst 1, 1) := by decide +kernel
theorem dL_law_439 : decode cL_law 439 = .ok (.iadd, 1) := by decide +kernel
theorem dL_law_440 : decode cL_law 440 = .ok (.iaload, 1) := by decide +kernel
theorem dL_law_441 : decode cL_law 441 = .ok (.aload_n 0, 1) := by decide +kernel
theorem dL_law_442 : decode cL_law 442 = .ok (.iload_n 3, 1) := by decide +kernel
theorem dL_law_443 : decode cL_law 443 = .ok (.iconst 2, 1) := by decide +kernel
theorem dL_law_444 : decode cL_law 444 = .ok (.iadd, 1) := by decide +kernel
theorem dL_law_445 : decode cL_law 445 = .ok (.iaload, 1) := by decide +kernel
theorem dL_law_446 : decode cL_law 446 = .ok (.aload_n 0, 1) := by decide +kernel
theorem dL_law_447 : decode cL_law 447 = .ok (.iload_n 3, 1) := by decide +kernel
theorem dL_law_448 : decode cL_law 448 = .ok (.iconst 3, 1) := by decide +kernel
theorem dL_law_449 : decode cL_law 449 = .ok (.iadd, 1) := by decide +kernel
theorem dL_law_450 : decode cL_law 450 = .ok (.iaload, 1) := by decide +kernel
theorem dL_law_451 : decode cL_law 451 = .ok (.ifCond .eq 7, 3) := by decide +kernel
theorem dL_law_454 : decode cL_law 454 = .ok (.iconst 1, 1) := by decide +kernel
theorem dL_law_455 : decode cL_law 455 = .ok (.goto 4, 3) := by decide +kernel
theorem dL_law_458 : decode cL_law 458 = .ok (.iconst 0, 1) := by decide +kernel
theorem dL_law_459 : decode cL_law 459 = .ok (.aload_n 0, 1) := by decide +kernel
theorem dL_law_460 : decode cL_law 460 = .ok (.iload_n 3, 1) := by decide +kernel
theorem dL_law_461 : decode cL_law 461 = .ok (.iconst 4, 1) := by decide +kernel
theorem dL_law_462 : decode cL_law 462 = .ok (.iadd, 1) := by decide +kernel
theorem dL_law_463 : decode cL_law 463 = .ok (.iaload, 1) := by decide +kernel
theorem dL_law_464 : decode cL_law 464 = .ok (.ifCond .eq 7, 3) := by decide +kernel
theorem dL_law_467 : decode cL_law 467 = .ok (.iconst 1, 1) := by decide +kernel
theorem dL_law_468 : decode cL_law 468 = .ok (.goto 4, 3) := by decide +kernel
theorem dL_law_471 : decode cL_law 471 = .ok (.iconst 0, 1) := by decide +kernel
theorem dL_law_472 : decode cL_law 472 = .ok (.invokevirtual 49, 3) := by decide +kernel
theorem dL_law_475 : decode cL_law 475 = .ok (.if_icmp .eq 591, 3) := by decide +kernel
theorem dL_law_478 : decode cL_law 478 = .ok (.iconst 0, 1) := by decide +kernel
theorem dL_law_479 : decode cL_law 479 = .ok (.ireturn, 1) := by decide +kernel
theorem dL_law_480 : decode cL_law 480 = .ok (.aload_n 1, 1) := by decide +kernel
theorem dL_law_481 : decode cL_law 481 = .ok (.aload_n 0, 1) := by decide +kernel
theorem dL_law_482 : decode cL_law 482 = .ok (.iload_n 3, 1) := by decide +kernel
theorem dL_law_483 : decode cL_law 483 = .ok (.iconst 1, 1) := by decide +kernel
theorem dL_law_484 : decode cL_law 484 = .ok (.iadd, 1) := by decide +kernel
theorem dL_law_485 : decode cL_law 485 = .ok (.iaload, 1) := by decide +kernel
theorem dL_law_486 : decode cL_law 486 = .ok (.aload_n 0, 1) := by decide +kernel
theorem dL_law_487 : decode cL_law 487 = .ok (.iload_n 3, 1) := by decide +kernel
theorem dL_law_488 : decode cL_law 488 = .ok (.iconst 2, 1) := by decide +kernel
theorem dL_law_489 : decode cL_law 489 = .ok (.iadd, 1) := by decide +kernel
theorem dL_law_490 : decode cL_law 490 = .ok (.iaload, 1) := by decide +kernel
theorem dL_law_491 : decode cL_law 491 = .ok (.aload_n 0, 1) := by decide +kernel
theorem dL_law_492 : decode cL_law 492 = .ok (.iload_n 3, 1) := by decide +kernel
theorem dL_law_493 : decode cL_law 493 = .ok (.iconst 3, 1) := by decide +kernel
theorem dL_law_494 : decode cL_law 494 = .ok (.iadd, 1) := by decide +kernel
theorem dL_law_495 : decode cL_law 495 = .ok (.iaload, 1) := by decide +kernel
theorem dL_law_496 : decode cL_law 496 = .ok (.ifCond .eq 7, 3) := by decide +kernel
theorem dL_law_499 : decode cL_law 499 = .ok (.iconst 1, 1) := by decide +kernel
theorem dL_law_500 : decode cL_law 500 = .ok (.goto 4, 3) := by decide +kernel
theorem dL_law_503 : decode cL_law 503 = .ok (.iconst 0, 1) := by decide +kernel
theorem dL_law_504 : decode cL_law 504 = .ok (.invokevirtual 50, 3) := by decide +kernel
theorem dL_law_507 : decode cL_law 507 = .ok (.aload_n 2, 1) := by decide +kernel
theorem dL_law_508 : decode cL_law 508 = .ok (.aload_n 0, 1) := by decide +kernel
theorem dL_law_509 : decode cL_law 509 = .ok (.iload_n 3, 1) := by decide +kernel
theorem dL_law_510 : decode cL_law 510 = .ok (.iconst 1, 1) := by decide +kernel
theorem dL_law_511 : decode cL_law 511 = .ok (.iadd, 1) := by decide +kernel
theorem dL_law_512 : decode cL_law 512 = .ok (.iaload, 1) := by decide +kernel
theorem dL_law_513 : decode cL_law 513 = .ok (.aload_n 0, 1) := by decide +kernel
theorem dL_law_514 : decode cL_law 514 = .ok (.iload_n 3, 1) := by decide +kernel
theorem dL_law_515 : decode cL_law 515 = .ok (.iconst 2, 1) := by decide +kernel
theorem dL_law_516 : decode cL_law 516 = .ok (.iadd, 1) := by decide +kernel
theorem dL_law_517 : decode cL_law 517 = .ok (.iaload, 1) := by decide +kernel
theorem dL_law_518 : decode cL_law 518 = .ok (.aload_n 0, 1) := by decide +kernel
theorem dL_law_519 : decode cL_law 519 = .ok (.iload_n 3, 1) := by decide +kernel
theorem dL_law_520 : decode cL_law 520 = .ok (.iconst 3, 1) := by decide +kernel
theorem dL_law_521 : decode cL_law 521 = .ok (.iadd, 1) := by decide +kernel
theorem dL_law_522 : decode cL_law 522 = .ok (.iaload, 1) := by decide +kernel
theorem dL_law_523 : decode cL_law 523 = .ok (.ifCond .eq 7, 3) := by decide +kernel
theorem dL_law_526 : decode cL_law 526 = .ok (.iconst 1, 1) := by decide +kernel
theorem dL_law_527 : decode cL_law 527 = .ok (.goto 4, 3) := by decide +kernel
theorem dL_law_530 : decode cL_law 530 = .ok (.iconst 0, 1) := by decide +kernel
theorem dL_law_531 : decode cL_law 531 = .ok (.invokevirtual 54, 3) := by decide +kernel
theorem dL_law_534 : decode cL_law 534 = .ok (.if_icmp .eq 532, 3) := by decide +kernel
theorem dL_law_537 : decode cL_law 537 = .ok (.iconst 0, 1) := by decide +kernel
theorem dL_law_538 : decode cL_law 538 = .ok (.ireturn, 1) := by decide +kernel
theorem dL_law_539 : decode cL_law 539 = .ok (.aload_n 1, 1) := by decide +kernel
theorem dL_law_540 : decode cL_law 540 = .ok (.aload_n 0, 1) := by decide +kernel
theorem dL_law_541 : decode cL_law 541 = .ok (.iload_n 3, 1) := by decide +kernel
theorem dL_law_542 : decode cL_law 542 = .ok (.iconst 1, 1) := by decide +kernel
theorem dL_law_543 : decode cL_law 543 = .ok (.iadd, 1) := by decide +kernel
theorem dL_law_544 : decode cL_law 544 = .ok (.iaload, 1) := by decide +kernel
theorem dL_law_545 : decode cL_law 545 = .ok (.ifCond .eq 7, 3) := by decide +kernel
theorem dL_law_548 : decode cL_law 548 = .ok (.iconst 1, 1) := by decide +kernel
theorem dL_law_549 : decode cL_law 549 = .ok (.goto 4, 3) := by decide +kernel
theorem dL_law_552 : decode cL_law 552 = .ok (.iconst 0, 1) := by decide +kernel
theorem dL_law_553 : decode cL_law 553 = .ok (.invokevirtual 55, 3) := by decide +kernel
theorem dL_law_556 : decode cL_law 556 = .ok (.aload_n 2, 1) := by decide +kernel
theorem dL_law_557 : decode cL_law 557 = .ok (.aload_n 0, 1) := by decide +kernel
theorem dL_law_558 : decode cL_law 558 = .ok (.iload_n 3, 1) := by decide +kernel
theorem dL_law_559 : decode cL_law 559 = .ok (.iconst 1, 1) := by decide +kernel
theorem dL_law_560 : decode cL_law 560 = .ok (.iadd, 1) := by decide +kernel
theorem dL_law_561 : decode cL_law 561 = .ok (.iaload, 1) := by decide +kernel
theorem dL_law_562 : decode cL_law 562 = .ok (.ifCond .eq 7, 3) := by decide +kernel
theorem dL_law_565 : decode cL_law 565 = .ok (.iconst 1, 1) := by decide +kernel
theorem dL_law_566 : decode cL_law 566 = .ok (.goto 4, 3) := by decide +kernel
theorem dL_law_569 : decode cL_law 569 = .ok (.iconst 0, 1) := by decide +kernel
theorem dL_law_570 : decode cL_law 570 = .ok (.invokevirtual 59, 3) := by decide +kernel
theorem dL_law_573 : decode cL_law 573 = .ok (.if_icmp .eq 493, 3) := by decide +kernel
theorem dL_law_576 : decode cL_law 576 = .ok (.iconst 0, 1) := by decide +kernel
theorem dL_law_577 : decode cL_law 577 = .ok (.ireturn, 1) := by decide +kernel
theorem dL_law_578 : decode cL_law 578 = .ok (.aload_n 1, 1) := by decide +kernel
theorem dL_law_579 : decode cL_law 579 = .ok (.invokevirtual 60, 3) := by decide +kernel
theorem dL_law_582 : decode cL_law 582 = .ok (.aload_n 2, 1) := by decide +kernel
theorem dL_law_583 : decode cL_law 583 = .ok (.invokevirtual 64, 3) := by decide +kernel
theorem dL_law_586 : decode cL_law 586 = .ok (.if_icmp .eq 480, 3) := by decide +kernel
theorem dL_law_589 : decode cL_law 589 = .ok (.iconst 0, 1) := by decide +kernel
theorem dL_law_590 : decode cL_law 590 = .ok (.ireturn, 1) := by decide +kernel
theorem dL_law_591 : decode cL_law 591 = .ok (.aload_n 1, 1) := by decide +kernel
theorem dL_law_592 : decode cL_law 592 = .ok (.aload_n 0, 1) := by decide +kernel
theorem dL_law_593 : decode cL_law 593 = .ok (.iload_n 3, 1) := by decide +kernel
theorem dL_law_594 : decode cL_law 594 = .ok (.iconst 1, 1) := by decide +kernel
theorem dL_law_595 : decode cL_law 595 = .ok (.iadd, 1) := by decide +kernel
theorem dL_law_596 : decode cL_law 596 = .ok (.iaload, 1) := by decide +kernel
theorem dL_law_597 : decode cL_law 597 = .ok (.invokevirtual 65, 3) := by decide +kernel
theorem dL_law_600 : decode cL_law 600 = .ok (.aload_n 2, 1) := by decide +kernel
theorem dL_law_601 : decode cL_law 601 = .ok (.aload_n 0, 1) := by decide +kernel
theorem dL_law_602 : decode cL_law 602 = .ok (.iload_n 3, 1) := by decide +kernel
theorem dL_law_603 : decode cL_law 603 = .ok (.iconst 1, 1) := by decide +kernel
theorem dL_law_604 : decode cL_law 604 = .ok (.iadd, 1) := by decide +kernel
theorem dL_law_605 : decode cL_law 605 = .ok (.iaload, 1) := by decide +kernel
theorem dL_law_606 : decode cL_law 606 = .ok (.invokevirtual 68, 3) := by decide +kernel
theorem dL_law_609 : decode cL_law 609 = .ok (.if_icmp .eq 457, 3) := by decide +kernel
theorem dL_law_612 : decode cL_law 612 = .ok (.iconst 0, 1) := by decide +kernel
theorem dL_law_613 : decode cL_law 613 = .ok (.ireturn, 1) := by decide +kernel
theorem dL_law_614 : decode cL_law 614 = .ok (.aload_n 1, 1) := by decide +kernel
theorem dL_law_615 : decode cL_law 615 = .ok (.aload_n 0, 1) := by decide +kernel
theorem dL_law_616 : decode cL_law 616 = .ok (.iload_n 3, 1) := by decide +kernel
theorem dL_law_617 : decode cL_law 617 = .ok (.iconst 1, 1) := by decide +kernel
theorem dL_law_618 : decode cL_law 618 = .ok (.iadd, 1) := by decide +kernel
theorem dL_law_619 : decode cL_law 619 = .ok (.iaload, 1) := by decide +kernel
theorem dL_law_620 : decode cL_law 620 = .ok (.aload_n 0, 1) := by decide +kernel
theorem dL_law_621 : decode cL_law 621 = .ok (.iload_n 3, 1) := by decide +kernel
theorem dL_law_622 : decode cL_law 622 = .ok (.iconst 2, 1) := by decide +kernel
theorem dL_law_623 : decode cL_law 623 = .ok (.iadd, 1) := by decide +kernel
theorem dL_law_624 : decode cL_law 624 = .ok (.iaload, 1) := by decide +kernel
theorem dL_law_625 : decode cL_law 625 = .ok (.invokevirtual 69, 3) := by decide +kernel
theorem dL_law_628 : decode cL_law 628 = .ok (.aload_n 2, 1) := by decide +kernel
theorem dL_law_629 : decode cL_law 629 = .ok (.aload_n 0, 1) := by decide +kernel
theorem dL_law_630 : decode cL_law 630 = .ok (.iload_n 3, 1) := by decide +kernel
theorem dL_law_631 : decode cL_law 631 = .ok (.iconst 1, 1) := by decide +kernel
theorem dL_law_632 : decode cL_law 632 = .ok (.iadd, 1) := by decide +kernel
theorem dL_law_633 : decode cL_law 633 = .ok (.iaload, 1) := by decide +kernel
theorem dL_law_634 : decode cL_law 634 = .ok (.aload_n 0, 1) := by decide +kernel
theorem dL_law_635 : decode cL_law 635 = .ok (.iload_n 3, 1) := by decide +kernel
theorem dL_law_636 : decode cL_law 636 = .ok (.iconst 2, 1) := by decide +kernel
theorem dL_law_637 : decode cL_law 637 = .ok (.iadd, 1) := by decide +kernel
theorem dL_law_638 : decode cL_law 638 = .ok (.iaload, 1) := by decide +kernel
theorem dL_law_639 : decode cL_law 639 = .ok (.invokevirtual 72, 3) := by decide +kernel
theorem dL_law_642 : decode cL_law 642 = .ok (.if_icmp .eq 424, 3) := by decide +kernel
theorem dL_law_645 : decode cL_law 645 = .ok (.iconst 0, 1) := by decide +kernel
theorem dL_law_646 : decode cL_law 646 = .ok (.ireturn, 1) := by decide +kernel
theorem dL_law_647 : decode cL_law 647 = .ok (.aload_n 1, 1) := by decide +kernel
theorem dL_law_648 : decode cL_law 648 = .ok (.aload_n 0, 1) := by decide +kernel
theorem dL_law_649 : decode cL_law 649 = .ok (.iload_n 3, 1) := by decide +kernel
theorem dL_law_650 : decode cL_law 650 = .ok (.iconst 1, 1) := by decide +kernel
theorem dL_law_651 : decode cL_law 651 = .ok (.iadd, 1) := by decide +kernel
theorem dL_law_652 : decode cL_law 652 = .ok (.iaload, 1) := by decide +kernel
theorem dL_law_653 : decode cL_law 653 = .ok (.aload_n 0, 1) := by decide +kernel
theorem dL_law_654 : decode cL_law 654 = .ok (.iload_n 3, 1) := by decide +kernel
theorem dL_law_655 : decode cL_law 655 = .ok (.iconst 2, 1) := by decide +kernel
theorem dL_law_656 : decode cL_law 656 = .ok (.iadd, 1) := by decide +kernel
theorem dL_law_657 : decode cL_law 657 = .ok (.iaload, 1) := by decide +kernel
theorem dL_law_658 : decode cL_law 658 = .ok (.ifCond .eq 7, 3) := by decide +kernel
theorem dL_law_661 : decode cL_law 661 = .ok (.iconst 1, 1) := by decide +kernel
theorem dL_law_662 : decode cL_law 662 = .ok (.goto 4, 3) := by decide +kernel
theorem dL_law_665 : decode cL_law 665 = .ok (.iconst 0, 1) := by decide +kernel
theorem dL_law_666 : decode cL_law 666 = .ok (.invokevirtual 73, 3) := by decide +kernel
theorem dL_law_669 : decode cL_law 669 = .ok (.aload_n 2, 1) := by decide +kernel
theorem dL_law_670 : decode cL_law 670 = .ok (.aload_n 0, 1) := by decide +kernel
theorem dL_law_671 : decode cL_law 671 = .ok (.iload_n 3, 1) := by decide +kernel
theorem dL_law_672 : decode cL_law 672 = .ok (.iconst 1, 1) := by decide +kernel
theorem dL_law_673 : decode cL_law 673 = .ok (.iadd, 1) := by decide +kernel
theorem dL_law_674 : decode cL_law 674 = .ok (.iaload, 1) := by decide +kernel
theorem dL_law_675 : decode cL_law 675 = .ok (.aload_n 0, 1) := by decide +kernel
theorem dL_law_676 : decode cL_law 676 = .ok (.iload_n 3, 1) := by decide +kernel
theorem dL_law_677 : decode cL_law 677 = .ok (.iconst 2, 1) := by decide +kernel
theorem dL_law_678 : decode cL_law 678 = .ok (.iadd, 1) := by decide +kernel
theorem dL_law_679 : decode cL_law 679 = .ok (.iaload, 1) := by decide +kernel
theorem dL_law_680 : decode cL_law 680 = .ok (.ifCond .eq 7, 3) := by decide +kernel
theorem dL_law_683 : decode cL_law 683 = .ok (.iconst 1, 1) := by decide +kernel
theorem dL_law_684 : decode cL_law 684 = .ok (.goto 4, 3) := by decide +kernel
theorem dL_law_687 : decode cL_law 687 = .ok (.iconst 0, 1) := by decide +kernel
theorem dL_law_688 : decode cL_law 688 = .ok (.invokevirtual 76, 3) := by decide +kernel
theorem dL_law_691 : decode cL_law 691 = .ok (.if_icmp .eq 375, 3) := by decide +kernel
theorem dL_law_694 : decode cL_law 694 = .ok (.iconst 0, 1) := by decide +kernel
theorem dL_law_695 : decode cL_law 695 = .ok (.ireturn, 1) := by decide +kernel
theorem dL_law_696 : decode cL_law 696 = .ok (.aload_n 1, 1) := by decide +kernel
theorem dL_law_697 : decode cL_law 697 = .ok (.aload_n 0, 1) := by decide +kernel
theorem dL_law_698 : decode cL_law 698 = .ok (.iload_n 3, 1) := by decide +kernel
theorem dL_law_699 : decode cL_law 699 = .ok (.iconst 1, 1) := by decide +kernel
theorem dL_law_700 : decode cL_law 700 = .ok (.iadd, 1) := by decide +kernel
theorem dL_law_701 : decode cL_law 701 = .ok (.iaload, 1) := by decide +kernel
theorem dL_law_702 : decode cL_law 702 = .ok (.invokevirtual 77, 3) := by decide +kernel
theorem dL_law_705 : decode cL_law 705 = .ok (.aload_n 2, 1) := by decide +kernel
theorem dL_law_706 : decode cL_law 706 = .ok (.aload_n 0, 1) := by decide +kernel
theorem dL_law_707 : decode cL_law 707 = .ok (.iload_n 3, 1) := by decide +kernel
theorem dL_law_708 : decode cL_law 708 = .ok (.iconst 1, 1) := by decide +kernel
theorem dL_law_709 : decode cL_law 709 = .ok (.iadd, 1) := by decide +kernel
theorem dL_law_710 : decode cL_law 710 = .ok (.iaload, 1) := by decide +kernel
theorem dL_law_711 : decode cL_law 711 = .ok (.invokevirtual 80, 3) := by decide +kernel
theorem dL_law_714 : decode cL_law 714 = .ok (.if_icmp .eq 352, 3) := by decide +kernel
theorem dL_law_717 : decode cL_law 717 = .ok (.iconst 0, 1) := by decide +kernel
theorem dL_law_718 : decode cL_law 718 = .ok (.ireturn, 1) := by decide +kernel
theorem dL_law_719 : decode cL_law 719 = .ok (.aload_n 1, 1) := by decide +kernel
theorem dL_law_720 : decode cL_law 720 = .ok (.aload_n 0, 1) := by decide +kernel
theorem dL_law_721 : decode cL_law 721 = .ok (.iload_n 3, 1) := by decide +kernel
theorem dL_law_722 : decode cL_law 722 = .ok (.iconst 1, 1) := by decide +kernel
theorem dL_law_723 : decode cL_law 723 = .ok (.iadd, 1) := by decide +kernel
theorem dL_law_724 : decode cL_law 724 = .ok (.iaload, 1) := by decide +kernel
theorem dL_law_725 : decode cL_law 725 = .ok (.aload_n 0, 1) := by decide +kernel
theorem dL_law_726 : decode cL_law 726 = .ok (.iload_n 3, 1) := by decide +kernel
theorem dL_law_727 : decode cL_law 727 = .ok (.iconst 2, 1) := by decide +kernel
theorem dL_law_728 : decode cL_law 728 = .ok (.iadd, 1) := by decide +kernel
theorem dL_law_729 : decode cL_law 729 = .ok (.iaload, 1) := by decide +kernel
theorem dL_law_730 : decode cL_law 730 = .ok (.ifCond .eq 7, 3) := by decide +kernel
theorem dL_law_733 : decode cL_law 733 = .ok (.iconst 1, 1) := by decide +kernel
theorem dL_law_734 : decode cL_law 734 = .ok (.goto 4, 3) := by decide +kernel
theorem dL_law_737 : decode cL_law 737 = .ok (.iconst 0, 1) := by decide +kernel
theorem dL_law_738 : decode cL_law 738 = .ok (.invokevirtual 81, 3) := by decide +kernel
theorem dL_law_741 : decode cL_law 741 = .ok (.aload_n 2, 1) := by decide +kernel
theorem dL_law_742 : decode cL_law 742 = .ok (.aload_n 0, 1) := by decide +kernel
theorem dL_law_743 : decode cL_law 743 = .ok (.iload_n 3, 1) := by decide +kernel
theorem dL_law_744 : decode cL_law 744 = .ok (.iconst 1, 1) := by decide +kernel
theorem dL_law_745 : decode cL_law 745 = .ok (.iadd, 1) := by decide +kernel
theorem dL_law_746 : decode cL_law 746 = .ok (.iaload, 1) := by decide +kernel
theorem dL_law_747 : decode cL_law 747 = .ok (.aload_n 0, 1) := by decide +kernel
theorem dL_law_748 : decode cL_law 748 = .ok (.iload_n 3, 1) := by decide +kernel
theorem dL_law_749 : decode cL_law 749 = .ok (.iconst 2, 1) := by decide +kernel
theorem dL_law_750 : decode cL_law 750 = .ok (.iadd, 1) := by decide +kernel
theorem dL_law_751 : decode cL_law 751 = .ok (.iaload, 1) := by decide +kernel
theorem dL_law_752 : decode cL_law 752 = .ok (.ifCond .eq 7, 3) := by decide +kernel
theorem dL_law_755 : decode cL_law 755 = .ok (.iconst 1, 1) := by decide +kernel
theorem dL_law_756 : decode cL_law 756 = .ok (.goto 4, 3) := by decide +kernel
theorem dL_law_759 : decode cL_law 759 = .ok (.iconst 0, 1) := by decide +kernel
theorem dL_law_760 : decode cL_law 760 = .ok (.invokevirtual 84, 3) := by decide +kernel
theorem dL_law_763 : decode cL_law 763 = .ok (.if_icmp .eq 303, 3) := by decide +kernel
theorem dL_law_766 : decode cL_law 766 = .ok (.iconst 0, 1) := by decide +kernel
theorem dL_law_767 : decode cL_law 767 = .ok (.ireturn, 1) := by decide +kernel
theorem dL_law_768 : decode cL_law 768 = .ok (.aload_n 1, 1) := by decide +kernel
theorem dL_law_769 : decode cL_law 769 = .ok (.aload_n 0, 1) := by decide +kernel
theorem dL_law_770 : decode cL_law 770 = .ok (.iload_n 3, 1) := by decide +kernel
theorem dL_law_771 : decode cL_law 771 = .ok (.iconst 1, 1) := by decide +kernel
theorem dL_law_772 : decode cL_law 772 = .ok (.iadd, 1) := by decide +kernel
theorem dL_law_773 : decode cL_law 773 = .ok (.iaload, 1) := by decide +kernel
theorem dL_law_774 : decode cL_law 774 = .ok (.invokevirtual 85, 3) := by decide +kernel
theorem dL_law_777 : decode cL_law 777 = .ok (.aload_n 2, 1) := by decide +kernel
theorem dL_law_778 : decode cL_law 778 = .ok (.aload_n 0, 1) := by decide +kernel
theorem dL_law_779 : decode cL_law 779 = .ok (.iload_n 3, 1) := by decide +kernel
theorem dL_law_780 : decode cL_law 780 = .ok (.iconst 1, 1) := by decide +kernel
theorem dL_law_781 : decode cL_law 781 = .ok (.iadd, 1) := by decide +kernel
theorem dL_law_782 : decode cL_law 782 = .ok (.iaload, 1) := by decide +kernel
theorem dL_law_783 : decode cL_law 783 = .ok (.invokevirtual 88, 3) := by decide +kernel
theorem dL_law_786 : decode cL_law 786 = .ok (.if_icmp .eq 280, 3) := by decide +kernel
theorem dL_law_789 : decode cL_law 789 = .ok (.iconst 0, 1) := by decide +kernel
theorem dL_law_790 : decode cL_law 790 = .ok (.ireturn, 1) := by decide +kernel
theorem dL_law_791 : decode cL_law 791 = .ok (.aload_n 1, 1) := by decide +kernel
theorem dL_law_792 : decode cL_law 792 = .ok (.aload_n 0, 1) := by decide +kernel
theorem dL_law_793 : decode cL_law 793 = .ok (.iload_n 3, 1) := by decide +kernel
theorem dL_law_794 : decode cL_law 794 = .ok (.iconst 1, 1) := by decide +kernel
theorem dL_law_795 : decode cL_law 795 = .ok (.iadd, 1) := by decide +kernel
theorem dL_law_796 : decode cL_law 796 = .ok (.iaload, 1) := by decide +kernel
theorem dL_law_797 : decode cL_law 797 = .ok (.invokevirtual 89, 3) := by decide +kernel
theorem dL_law_800 : decode cL_law 800 = .ok (.aload_n 2, 1) := by decide +kernel
theorem dL_law_801 : decode cL_law 801 = .ok (.aload_n 0, 1) := by decide +kernel
theorem dL_law_802 : decode cL_law 802 = .ok (.iload_n 3, 1) := by decide +kernel
theorem dL_law_803 : decode cL_law 803 = .ok (.iconst 1, 1) := by decide +kernel
theorem dL_law_804 : decode cL_law 804 = .ok (.iadd, 1) := by decide +kernel
theorem dL_law_805 : decode cL_law 805 = .ok (.iaload, 1) := by decide +kernel
theorem dL_law_806 : decode cL_law 806 = .ok (.invokevirtual 92, 3) := by decide +kernel
theorem dL_law_809 : decode cL_law 809 = .ok (.if_icmp .eq 257, 3) := by decide +kernel
theorem dL_law_812 : decode cL_law 812 = .ok (.iconst 0, 1) := by decide +kernel
theorem dL_law_813 : decode cL_law 813 = .ok (.ireturn, 1) := by decide +kernel
theorem dL_law_814 : decode cL_law 814 = .ok (.aload_n 1, 1) := by decide +kernel
theorem dL_law_815 : decode cL_law 815 = .ok (.aload_n 0, 1) := by decide +kernel
theorem dL_law_816 : decode cL_law 816 = .ok (.iload_n 3, 1) := by decide +kernel
theorem dL_law_817 : decode cL_law 817 = .ok (.iconst 1, 1) := by decide +kernel
theorem dL_law_818 : decode cL_law 818 = .ok (.iadd, 1) := by decide +kernel
theorem dL_law_819 : decode cL_law 819 = .ok (.iaload, 1) := by decide +kernel
theorem dL_law_820 : decode cL_law 820 = .ok (.invokevirtual 93, 3) := by decide +kernel
theorem dL_law_823 : decode cL_law 823 = .ok (.aload_n 2, 1) := by decide +kernel
theorem dL_law_824 : decode cL_law 824 = .ok (.aload_n 0, 1) := by decide +kernel
theorem dL_law_825 : decode cL_law 825 = .ok (.iload_n 3, 1) := by decide +kernel
theorem dL_law_826 : decode cL_law 826 = .ok (.iconst 1, 1) := by decide +kernel
theorem dL_law_827 : decode cL_law 827 = .ok (.iadd, 1) := by decide +kernel
theorem dL_law_828 : decode cL_law 828 = .ok (.iaload, 1) := by decide +kernel
theorem dL_law_829 : decode cL_law 829 = .ok (.invokevirtual 96, 3) := by decide +kernel
theorem dL_law_832 : decode cL_law 832 = .ok (.if_icmp .eq 234, 3) := by decide +kernel
theorem dL_law_835 : decode cL_law 835 = .ok (.iconst 0, 1) := by decide +kernel
theorem dL_law_836 : decode cL_law 836 = .ok (.ireturn, 1) := by decide +kernel
theorem dL_law_837 : decode cL_law 837 = .ok (.aload_n 1, 1) := by decide +kernel
theorem dL_law_838 : decode cL_law 838 = .ok (.aload_n 0, 1) := by decide +kernel
theorem dL_law_839 : decode cL_law 839 = .ok (.iload_n 3, 1) := by decide +kernel
theorem dL_law_840 : decode cL_law 840 = .ok (.iconst 1, 1) := by decide +kernel
theorem dL_law_841 : decode cL_law 841 = .ok (.iadd, 1) := by decide +kernel
theorem dL_law_842 : decode cL_law 842 = .ok (.iaload, 1) := by decide +kernel
theorem dL_law_843 : decode cL_law 843 = .ok (.invokevirtual 97, 3) := by decide +kernel
theorem dL_law_846 : decode cL_law 846 = .ok (.aload_n 2, 1) := by decide +kernel
theorem dL_law_847 : decode cL_law 847 = .ok (.aload_n 0, 1) := by decide +kernel
theorem dL_law_848 : decode cL_law 848 = .ok (.iload_n 3, 1) := by decide +kernel
theorem dL_law_849 : decode cL_law 849 = .ok (.iconst 1, 1) := by decide +kernel
theorem dL_law_850 : decode cL_law 850 = .ok (.iadd, 1) := by decide +kernel
theorem dL_law_851 : decode cL_law 851 = .ok (.iaload, 1) := by decide +kernel
theorem dL_law_852 : decode cL_law 852 = .ok (.invokevirtual 100, 3) := by decide +kernel
theorem dL_law_855 : decode cL_law 855 = .ok (.if_icmp .eq 211, 3) := by decide +kernel
theorem dL_law_858 : decode cL_law 858 = .ok (.iconst 0, 1) := by decide +kernel
theorem dL_law_859 : decode cL_law 859 = .ok (.ireturn, 1) := by decide +kernel
theorem dL_law_860 : decode cL_law 860 = .ok (.aload_n 1, 1) := by decide +kernel
theorem dL_law_861 : decode cL_law 861 = .ok (.invokevirtual 101, 3) := by decide +kernel
theorem dL_law_864 : decode cL_law 864 = .ok (.aload_n 2, 1) := by decide +kernel
theorem dL_law_865 : decode cL_law 865 = .ok (.invokevirtual 104, 3) := by decide +kernel
theorem dL_law_868 : decode cL_law 868 = .ok (.if_icmp .eq 198, 3) := by decide +kernel
theorem dL_law_871 : decode cL_law 871 = .ok (.iconst 0, 1) := by decide +kernel
theorem dL_law_872 : decode cL_law 872 = .ok (.ireturn, 1) := by decide +kernel
theorem dL_law_873 : decode cL_law 873 = .ok (.aload_n 1, 1) := by decide +kernel
theorem dL_law_874 : decode cL_law 874 = .ok (.aload_n 0, 1) := by decide +kernel
theorem dL_law_875 : decode cL_law 875 = .ok (.iload_n 3, 1) := by decide +kernel
theorem dL_law_876 : decode cL_law 876 = .ok (.iconst 1, 1) := by decide +kernel
theorem dL_law_877 : decode cL_law 877 = .ok (.iadd, 1) := by decide +kernel
theorem dL_law_878 : decode cL_law 878 = .ok (.iaload, 1) := by decide +kernel
theorem dL_law_879 : decode cL_law 879 = .ok (.invokevirtual 105, 3) := by decide +kernel
theorem dL_law_882 : decode cL_law 882 = .ok (.aload_n 2, 1) := by decide +kernel
theorem dL_law_883 : decode cL_law 883 = .ok (.aload_n 0, 1) := by decide +kernel
theorem dL_law_884 : decode cL_law 884 = .ok (.iload_n 3, 1) := by decide +kernel
theorem dL_law_885 : decode cL_law 885 = .ok (.iconst 1, 1) := by decide +kernel
theorem dL_law_886 : decode cL_law 886 = .ok (.iadd, 1) := by decide +kernel
theorem dL_law_887 : decode cL_law 887 = .ok (.iaload, 1) := by decide +kernel
theorem dL_law_888 : decode cL_law 888 = .ok (.invokevirtual 108, 3) := by decide +kernel
theorem dL_law_891 : decode cL_law 891 = .ok (.if_icmp .eq 175, 3) := by decide +kernel
theorem dL_law_894 : decode cL_law 894 = .ok (.iconst 0, 1) := by decide +kernel
theorem dL_law_895 : decode cL_law 895 = .ok (.ireturn, 1) := by decide +kernel
theorem dL_law_896 : decode cL_law 896 = .ok (.aload_n 1, 1) := by decide +kernel
theorem dL_law_897 : decode cL_law 897 = .ok (.aload_n 0, 1) := by decide +kernel
theorem dL_law_898 : decode cL_law 898 = .ok (.iload_n 3, 1) := by decide +kernel
theorem dL_law_899 : decode cL_law 899 = .ok (.iconst 1, 1) := by decide +kernel
theorem dL_law_900 : decode cL_law 900 = .ok (.iadd, 1) := by decide +kernel
theorem dL_law_901 : decode cL_law 901 = .ok (.iaload, 1) := by decide +kernel
theorem dL_law_902 : decode cL_law 902 = .ok (.invokevirtual 109, 3) := by decide +kernel
theorem dL_law_905 : decode cL_law 905 = .ok (.aload_n 2, 1) := by decide +kernel
theorem dL_law_906 : decode cL_law 906 = .ok (.aload_n 0, 1) := by decide +kernel
theorem dL_law_907 : decode cL_law 907 = .ok (.iload_n 3, 1) := by decide +kernel
theorem dL_law_908 : decode cL_law 908 = .ok (.iconst 1, 1) := by decide +kernel
theorem dL_law_909 : decode cL_law 909 = .ok (.iadd, 1) := by decide +kernel
theorem dL_law_910 : decode cL_law 910 = .ok (.iaload, 1) := by decide +kernel
theorem dL_law_911 : decode cL_law 911 = .ok (.invokevirtual 112, 3) := by decide +kernel
theorem dL_law_914 : decode cL_law 914 = .ok (.if_icmp .eq 152, 3) := by decide +kernel
theorem dL_law_917 : decode cL_law 917 = .ok (.iconst 0, 1) := by decide +kernel
theorem dL_law_918 : decode cL_law 918 = .ok (.ireturn, 1) := by decide +kernel
theorem dL_law_919 : decode cL_law 919 = .ok (.aload_n 1, 1) := by decide +kernel
theorem dL_law_920 : decode cL_law 920 = .ok (.aload_n 0, 1) := by decide +kernel
theorem dL_law_921 : decode cL_law 921 = .ok (.iload_n 3, 1) := by decide +kernel
theorem dL_law_922 : decode cL_law 922 = .ok (.iconst 1, 1) := by decide +kernel
theorem dL_law_923 : decode cL_law 923 = .ok (.iadd, 1) := by decide +kernel
theorem dL_law_924 : decode cL_law 924 = .ok (.iaload, 1) := by decide +kernel
theorem dL_law_925 : decode cL_law 925 = .ok (.ifCond .eq 7, 3) := by decide +kernel
theorem dL_law_928 : decode cL_law 928 = .ok (.iconst 1, 1) := by decide +kernel
theorem dL_law_929 : decode cL_law 929 = .ok (.goto 4, 3) := by decide +kernel
theorem dL_law_932 : decode cL_law 932 = .ok (.iconst 0, 1) := by decide +kernel
theorem dL_law_933 : decode cL_law 933 = .ok (.invokevirtual 113, 3) := by decide +kernel
theorem dL_law_936 : decode cL_law 936 = .ok (.aload_n 2, 1) := by decide +kernel
theorem dL_law_937 : decode cL_law 937 = .ok (.aload_n 0, 1) := by decide +kernel
theorem dL_law_938 : decode cL_law 938 = .ok (.iload_n 3, 1) := by decide +kernel
theorem dL_law_939 : decode cL_law 939 = .ok (.iconst 1, 1) := by decide +kernel
theorem dL_law_940 : decode cL_law 940 = .ok (.iadd, 1) := by decide +kernel
theorem dL_law_941 : decode cL_law 941 = .ok (.iaload, 1) := by decide +kernel
theorem dL_law_942 : decode cL_law 942 = .ok (.ifCond .eq 7, 3) := by decide +kernel
theorem dL_law_945 : decode cL_law 945 = .ok (.iconst 1, 1) := by decide +kernel
theorem dL_law_946 : decode cL_law 946 = .ok (.goto 4, 3) := by decide +kernel
theorem dL_law_949 : decode cL_law 949 = .ok (.iconst 0, 1) := by decide +kernel
theorem dL_law_950 : decode cL_law 950 = .ok (.invokevirtual 116, 3) := by decide +kernel
theorem dL_law_953 : decode cL_law 953 = .ok (.if_icmp .eq 113, 3) := by decide +kernel
theorem dL_law_956 : decode cL_law 956 = .ok (.iconst 0, 1) := by decide +kernel
theorem dL_law_957 : decode cL_law 957 = .ok (.ireturn, 1) := by decide +kernel
theorem dL_law_958 : decode cL_law 958 = .ok (.aload_n 1, 1) := by decide +kernel
theorem dL_law_959 : decode cL_law 959 = .ok (.aload_n 0, 1) := by decide +kernel
theorem dL_law_960 : decode cL_law 960 = .ok (.iload_n 3, 1) := by decide +kernel
theorem dL_law_961 : decode cL_law 961 = .ok (.iconst 1, 1) := by decide +kernel
theorem dL_law_962 : decode cL_law 962 = .ok (.iadd, 1) := by decide +kernel
theorem dL_law_963 : decode cL_law 963 = .ok (.iaload, 1) := by decide +kernel
theorem dL_law_964 : decode cL_law 964 = .ok (.invokevirtual 117, 3) := by decide +kernel
theorem dL_law_967 : decode cL_law 967 = .ok (.aload_n 2, 1) := by decide +kernel
theorem dL_law_968 : decode cL_law 968 = .ok (.aload_n 0, 1) := by decide +kernel
theorem dL_law_969 : decode cL_law 969 = .ok (.iload_n 3, 1) := by decide +kernel
theorem dL_law_970 : decode cL_law 970 = .ok (.iconst 1, 1) := by decide +kernel
theorem dL_law_971 : decode cL_law 971 = .ok (.iadd, 1) := by decide +kernel
theorem dL_law_972 : decode cL_law 972 = .ok (.iaload, 1) := by decide +kernel
theorem dL_law_973 : decode cL_law 973 = .ok (.invokevirtual 120, 3) := by decide +kernel
theorem dL_law_976 : decode cL_law 976 = .ok (.if_icmp .eq 90, 3) := by decide +kernel
theorem dL_law_979 : decode cL_law 979 = .ok (.iconst 0, 1) := by decide +kernel
theorem dL_law_980 : decode cL_law 980 = .ok (.ireturn, 1) := by decide +kernel
theorem dL_law_981 : decode cL_law 981 = .ok (.aload_n 1, 1) := by decide +kernel
theorem dL_law_982 : decode cL_law 982 = .ok (.invokevirtual 121, 3) := by decide +kernel
theorem dL_law_985 : decode cL_law 985 = .ok (.aload_n 2, 1) := by decide +kernel
theorem dL_law_986 : decode cL_law 986 = .ok (.invokevirtual 124, 3) := by decide +kernel
theorem dL_law_989 : decode cL_law 989 = .ok (.if_icmp .eq 77, 3) := by decide +kernel
theorem dL_law_992 : decode cL_law 992 = .ok (.iconst 0, 1) := by decide +kernel
theorem dL_law_993 : decode cL_law 993 = .ok (.ireturn, 1) := by decide +kernel
theorem dL_law_994 : decode cL_law 994 = .ok (.aload_n 1, 1) := by decide +kernel
theorem dL_law_995 : decode cL_law 995 = .ok (.aload_n 0, 1) := by decide +kernel
theorem dL_law_996 : decode cL_law 996 = .ok (.iload_n 3, 1) := by decide +kernel
theorem dL_law_997 : decode cL_law 997 = .ok (.iconst 1, 1) := by decide +kernel
theorem dL_law_998 : decode cL_law 998 = .ok (.iadd, 1) := by decide +kernel
theorem dL_law_999 : decode cL_law 999 = .ok (.iaload, 1) := by decide +kernel
theorem dL_law_1000 : decode cL_law 1000 = .ok (.invokevirtual 125, 3) := by decide +kernel
theorem dL_law_1003 : decode cL_law 1003 = .ok (.aload_n 2, 1) := by decide +kernel
theorem dL_law_1004 : decode cL_law 1004 = .ok (.aload_n 0, 1) := by decide +kernel
theorem dL_law_1005 : decode cL_law 1005 = .ok (.iload_n 3, 1) := by decide +kernel
theorem dL_law_1006 : decode cL_law 1006 = .ok (.iconst 1, 1) := by decide +kernel
theorem dL_law_1007 : decode cL_law 1007 = .ok (.iadd, 1) := by decide +kernel
theorem dL_law_1008 : decode cL_law 1008 = .ok (.iaload, 1) := by decide +kernel
theorem dL_law_1009 : decode cL_law 1009 = .ok (.invokevirtual 128, 3) := by decide +kernel
theorem dL_law_1012 : decode cL_law 1012 = .ok (.if_icmp .eq 54, 3) := by decide +kernel
theorem dL_law_1015 : decode cL_law 1015 = .ok (.iconst 0, 1) := by decide +kernel
theorem dL_law_1016 : decode cL_law 1016 = .ok (.ireturn, 1) := by decide +kernel
theorem dL_law_1017 : decode cL_law 1017 = .ok (.aload_n 1, 1) := by decide +kernel
theorem dL_law_1018 : decode cL_law 1018 = .ok (.invokevirtual 129, 3) := by decide +kernel
theorem dL_law_1021 : decode cL_law 1021 = .ok (.aload_n 2, 1) := by decide +kernel
theorem dL_law_1022 : decode cL_law 1022 = .ok (.invokevirtual 132, 3) := by decide +kernel
theorem dL_law_1025 : decode cL_law 1025 = .ok (.if_icmp .eq 41, 3) := by decide +kernel
theorem dL_law_1028 : decode cL_law 1028 = .ok (.iconst 0, 1) := by decide +kernel
theorem dL_law_1029 : decode cL_law 1029 = .ok (.ireturn, 1) := by decide +kernel
theorem dL_law_1030 : decode cL_law 1030 = .ok (.aload_n 1, 1) := by decide +kernel
theorem dL_law_1031 : decode cL_law 1031 = .ok (.invokevirtual 133, 3) := by decide +kernel
theorem dL_law_1034 : decode cL_law 1034 = .ok (.aload_n 2, 1) := by decide +kernel
theorem dL_law_1035 : decode cL_law 1035 = .ok (.invokevirtual 136, 3) := by decide +kernel
theorem dL_law_1038 : decode cL_law 1038 = .ok (.if_icmp .eq 28, 3) := by decide +kernel
theorem dL_law_1041 : decode cL_law 1041 = .ok (.iconst 0, 1) := by decide +kernel
theorem dL_law_1042 : decode cL_law 1042 = .ok (.ireturn, 1) := by decide +kernel
theorem dL_law_1043 : decode cL_law 1043 = .ok (.aload_n 1, 1) := by decide +kernel
theorem dL_law_1044 : decode cL_law 1044 = .ok (.aload_n 0, 1) := by decide +kernel
theorem dL_law_1045 : decode cL_law 1045 = .ok (.iload_n 3, 1) := by decide +kernel
theorem dL_law_1046 : decode cL_law 1046 = .ok (.iconst 1, 1) := by decide +kernel
theorem dL_law_1047 : decode cL_law 1047 = .ok (.iadd, 1) := by decide +kernel
theorem dL_law_1048 : decode cL_law 1048 = .ok (.iaload, 1) := by decide +kernel
theorem dL_law_1049 : decode cL_law 1049 = .ok (.invokevirtual 137, 3) := by decide +kernel
theorem dL_law_1052 : decode cL_law 1052 = .ok (.aload_n 2, 1) := by decide +kernel
theorem dL_law_1053 : decode cL_law 1053 = .ok (.aload_n 0, 1) := by decide +kernel
theorem dL_law_1054 : decode cL_law 1054 = .ok (.iload_n 3, 1) := by decide +kernel
theorem dL_law_1055 : decode cL_law 1055 = .ok (.iconst 1, 1) := by decide +kernel
theorem dL_law_1056 : decode cL_law 1056 = .ok (.iadd, 1) := by decide +kernel
theorem dL_law_1057 : decode cL_law 1057 = .ok (.iaload, 1) := by decide +kernel
theorem dL_law_1058 : decode cL_law 1058 = .ok (.invokevirtual 140, 3) := by decide +kernel
theorem dL_law_1061 : decode cL_law 1061 = .ok (.if_icmp .eq 5, 3) := by decide +kernel
theorem dL_law_1064 : decode cL_law 1064 = .ok (.iconst 0, 1) := by decide +kernel
theorem dL_law_1065 : decode cL_law 1065 = .ok (.ireturn, 1) := by decide +kernel
theorem dL_law_1066 : decode cL_law 1066 = .ok (.iinc 3 5, 3) := by decide +kernel
theorem dL_law_1069 : decode cL_law 1069 = .ok (.goto (-1051), 3) := by decide +kernel
theorem dL_law_1072 : decode cL_law 1072 = .ok (.iconst 1, 1) := by decide +kernel
theorem dL_law_1073 : decode cL_law 1073 = .ok (.ireturn, 1) := by decide +kernel
