theorem dX10_isDisc_70 : decode cX10_isDisc 70 = .ok (.iload 6, 2) := by decide +kernel
theorem dX10_isDisc_72 : decode cX10_isDisc 72 = .ok (.aload_n 0, 1) := by decide +kernel
theorem dX10_isDisc_73 : decode cX10_isDisc 73 = .ok (.getfield 20, 3) := by decide +kernel
theorem dX10_isDisc_76 : decode cX10_isDisc 76 = .ok (.idiv, 1) := by decide +kernel
theorem dX10_isDisc_77 : decode cX10_isDisc 77 = .ok (.imul, 1) := by decide +kernel
theorem dX10_isDisc_78 : decode cX10_isDisc 78 = .ok (.iload_n 2, 1) := by decide +kernel
theorem dX10_isDisc_79 : decode cX10_isDisc 79 = .ok (.isub, 1) := by decide +kernel
theorem dX10_isDisc_80 : decode cX10_isDisc 80 = .ok (.istore 8, 2) := by decide +kernel
theorem dX10_isDisc_82 : decode cX10_isDisc 82 = .ok (.iload 7, 2) := by decide +kernel
theorem dX10_isDisc_84 : decode cX10_isDisc 84 = .ok (.iload 7, 2) := by decide +kernel
theorem dX10_isDisc_86 : decode cX10_isDisc 86 = .ok (.imul, 1) := by decide +kernel
theorem dX10_isDisc_87 : decode cX10_isDisc 87 = .ok (.iload 8, 2) := by decide +kernel
theorem dX10_isDisc_89 : decode cX10_isDisc 89 = .ok (.iload 8, 2) := by decide +kernel
theorem dX10_isDisc_91 : decode cX10_isDisc 91 = .ok (.imul, 1) := by decide +kernel
theorem dX10_isDisc_92 : decode cX10_isDisc 92 = .ok (.iadd, 1) := by decide +kernel
theorem dX10_isDisc_93 : decode cX10_isDisc 93 = .ok (.istore 9, 2) := by decide +kernel
theorem dX10_isDisc_95 : decode cX10_isDisc 95 = .ok (.aload_n 0, 1) := by decide +kernel
theorem dX10_isDisc_96 : decode cX10_isDisc 96 = .ok (.getfield 27, 3) := by decide +kernel
theorem dX10_isDisc_99 : decode cX10_isDisc 99 = .ok (.iload 6, 2) := by decide +kernel
theorem dX10_isDisc_101 : decode cX10_isDisc 101 = .ok (.baload, 1) := by decide +kernel
theorem dX10_isDisc_102 : decode cX10_isDisc 102 = .ok (.ifCond .eq 15, 3) := by decide +kernel
theorem dX10_isDisc_105 : decode cX10_isDisc 105 = .ok (.iload 9, 2) := by decide +kernel
theorem dX10_isDisc_107 : decode cX10_isDisc 107 = .ok (.iload 4, 2) := by decide +kernel
theorem dX10_isDisc_109 : decode cX10_isDisc 109 = .ok (.if_icmp .le 8, 3) := by decide +kernel
theorem dX10_isDisc_112 : decode cX10_isDisc 112 = .ok (.iload 9, 2) := by decide +kernel
theorem dX10_isDisc_114 : decode cX10_isDisc 114 = .ok (.goto 5, 3) := by decide +kernel
theorem dX10_isDisc_117 : decode cX10_isDisc 117 = .ok (.iload 4, 2) := by decide +kernel
theorem dX10_isDisc_119 : decode cX10_isDisc 119 = .ok (.istore 4, 2) := by decide +kernel
theorem dX10_isDisc_121 : decode cX10_isDisc 121 = .ok (.aload_n 0, 1) := by decide +kernel
theorem dX10_isDisc_122 : decode cX10_isDisc 122 = .ok (.getfield 27, 3) := by decide +kernel
theorem dX10_isDisc_125 : decode cX10_isDisc 125 = .ok (.iload 6, 2) := by decide +kernel
theorem dX10_isDisc_127 : decode cX10_isDisc 127 = .ok (.baload, 1) := by decide +kernel
theorem dX10_isDisc_128 : decode cX10_isDisc 128 = .ok (.ifCond .ne 15, 3) := by decide +kernel
theorem dX10_isDisc_131 : decode cX10_isDisc 131 = .ok (.iload 9, 2) := by decide +kernel
theorem dX10_isDisc_133 : decode cX10_isDisc 133 = .ok (.iload 5, 2) := by decide +kernel
theorem dX10_isDisc_135 : decode cX10_isDisc 135 = .ok (.if_icmp .ge 8, 3) := by decide +kernel
theorem dX10_isDisc_138 : decode cX10_isDisc 138 = .ok (.iload 9, 2) := by decide +kernel
theorem dX10_isDisc_140 : decode cX10_isDisc 140 = .ok (.goto 5, 3) := by decide +kernel
theorem dX10_isDisc_143 : decode cX10_isDisc 143 = .ok (.iload 5, 2) := by decide +kernel
theorem dX10_isDisc_145 : decode cX10_isDisc 145 = .ok (.istore 5, 2) := by decide +kernel
theorem dX10_isDisc_147 : decode cX10_isDisc 147 = .ok (.iinc 6 1, 3) := by decide +kernel
theorem dX10_isDisc_150 : decode cX10_isDisc 150 = .ok (.goto (-103), 3) := by decide +kernel
theorem dX10_isDisc_153 : decode cX10_isDisc 153 = .ok (.iload 4, 2) := by decide +kernel
theorem dX10_isDisc_155 : decode cX10_isDisc 155 = .ok (.iload 5, 2) := by decide +kernel
theorem dX10_isDisc_157 : decode cX10_isDisc 157 = .ok (.if_icmp .ge 21, 3) := by decide +kernel
theorem dX10_isDisc_160 : decode cX10_isDisc 160 = .ok (.aload_n 0, 1) := by decide +kernel
theorem dX10_isDisc_161 : decode cX10_isDisc 161 = .ok (.iload_n 3, 1) := by decide +kernel
theorem dX10_isDisc_162 : decode cX10_isDisc 162 = .ok (.putfield 177, 3) := by decide +kernel
theorem dX10_isDisc_165 : decode cX10_isDisc 165 = .ok (.aload_n 0, 1) := by decide +kernel
theorem dX10_isDisc_166 : decode cX10_isDisc 166 = .ok (.iload_n 2, 1) := by decide +kernel
theorem dX10_isDisc_167 : decode cX10_isDisc 167 = .ok (.putfield 180, 3) := by decide +kernel
theorem dX10_isDisc_170 : decode cX10_isDisc 170 = .ok (.aload_n 0, 1) := by decide +kernel
theorem dX10_isDisc_171 : decode cX10_isDisc 171 = .ok (.iload 4, 2) := by decide +kernel
theorem dX10_isDisc_173 : decode cX10_isDisc 173 = .ok (.putfield 183, 3) := by decide +kernel
theorem dX10_isDisc_176 : decode cX10_isDisc 176 = .ok (.iconst 1, 1) := by decide +kernel
theorem dX10_isDisc_177 : decode cX10_isDisc 177 = .ok (.ireturn, 1) := by decide +kernel
theorem dX10_isDisc_178 : decode cX10_isDisc 178 = .ok (.iinc 3 1, 3) := by decide +kernel
theorem dX10_isDisc_181 : decode cX10_isDisc 181 = .ok (.goto (-156), 3) := by decide +kernel
theorem dX10_isDisc_184 : decode cX10_isDisc 184 = .ok (.iinc 2 1, 3) := by decide +kernel
theorem dX10_isDisc_187 : decode cX10_isDisc 187 = .ok (.goto (-180), 3) := by decide +kernel
theorem dX10_isDisc_190 : decode cX10_isDisc 190 = .ok (.iconst 0, 1) := by decide +kernel
theorem dX10_isDisc_191 : decode cX10_isDisc 191 = .ok (.ireturn, 1) := by decide +kernel
set_option maxRecDepth 20000 in
theorem ggX10_is_X10_lacks : GoodIn wsX10_is wsX10_lacks := goodIn_r _ [6, 7, 8, 9, 10, 5, 11, 12, 13, 14, 15, 16, 17, 18, 19, 20, 21, 22, 23, 24, 25, 26, 27, 28, 29, 30, 31, 32, 33, 34, 35, 36, 37, 38, 39, 40, 41, 58, 59, 60, 61, 62, 63, 64, 65, 66, 67, 68, 69, 70, 71, 72, 73, 74, 75] rfl (by decide +kernel)
set_option maxRecDepth 20000 in
theorem gX10_is_X10_lacks : GoodIn wsX10_is (wsV RX10 173 RX10 yX10_lacks wsX10_lacks) := goodIn_app (goodIn_of _ (by decide +kernel)) ggX10_is_X10_lacks
set_option maxRecDepth 20000 in
theorem ggX10_is_X10_hasStairs : GoodIn wsX10_is wsX10_hasStairs := goodIn_r _ [45, 13, 12, 14, 15, 16, 5, 17, 7, 18, 19, 20, 21, 22, 23, 24, 58, 59, 60, 61, 62, 63, 64, 65, 66, 67, 68, 69, 70, 71, 72, 73, 74, 75] rfl (by decide +kernel)
set_option maxRecDepth 20000 in
theorem gX10_is_X10_hasStairs : GoodIn wsX10_is (wsV RX10 186 RX10 yX10_hasStairs wsX10_hasStairs) := goodIn_app (goodIn_of _ (by decide +kernel)) ggX10_is_X10_hasStairs
set_option maxRecDepth 20000 in
theorem ggX10_is_X10_isDisc : GoodIn wsX10_is wsX10_isDisc := goodIn_r _ [49, 13, 12, 50, 7, 51, 52, 53, 54, 55, 56, 5, 57, 34, 35, 36, 37, 58, 59, 60, 61, 62, 63, 64, 65, 66, 67, 68, 69, 70, 71, 72, 73, 74, 75] rfl (by decide +kernel)
set_option maxRecDepth 20000 in
theorem gX10_is_X10_isDisc : GoodIn wsX10_is (wsV RX10 190 RX10 yX10_isDisc wsX10_isDisc) := goodIn_app (goodIn_of _ (by decide +kernel)) ggX10_is_X10_isDisc
theorem dX10_is_0 : decode cX10_is 0 = .ok (.aload_n 0, 1) := by decide +kernel
theorem dX10_is_1 : decode cX10_is 1 = .ok (.iconst 0, 1) := by decide +kernel
theorem dX10_is_2 : decode cX10_is 2 = .ok (.putfield 52, 3) := by decide +kernel
theorem dX10_is_5 : decode cX10_is 5 = .ok (.iload_n 1, 1) := by decide +kernel
theorem dX10_is_6 : decode cX10_is 6 = .ok (.tableswitch 65 0 2 #[26, 39, 52], 26) := by decide +kernel
theorem dX10_is_32 : decode cX10_is 32 = .ok (.aload_n 0, 1) := by decide +kernel
theorem dX10_is_33 : decode cX10_is 33 = .ok (.invokevirtual 173, 3) := by decide +kernel
theorem dX10_is_36 : decode cX10_is 36 = .ok (.ifCond .ne 7, 3) := by decide +kernel
theorem dX10_is_39 : decode cX10_is 39 = .ok (.iconst 1, 1) := by decide +kernel
theorem dX10_is_40 : decode cX10_is 40 = .ok (.goto 4, 3) := by decide +kernel
theorem dX10_is_43 : decode cX10_is 43 = .ok (.iconst 0, 1) := by decide +kernel
theorem dX10_is_44 : decode cX10_is 44 = .ok (.ireturn, 1) := by decide +kernel
theorem dX10_is_45 : decode cX10_is 45 = .ok (.aload_n 0, 1) := by decide +kernel
theorem dX10_is_46 : decode cX10_is 46 = .ok (.invokevirtual 186, 3) := by decide +kernel
theorem dX10_is_49 : decode cX10_is 49 = .ok (.ifCond .eq 7, 3) := by decide +kernel
theorem dX10_is_52 : decode cX10_is 52 = .ok (.iconst 1, 1) := by decide +kernel
theorem dX10_is_53 : decode cX10_is 53 = .ok (.goto 4, 3) := by decide +kernel
theorem dX10_is_56 : decode cX10_is 56 = .ok (.iconst 0, 1) := by decide +kernel
theorem dX10_is_57 : decode cX10_is 57 = .ok (.ireturn, 1) := by decide +kernel
theorem dX10_is_58 : decode cX10_is 58 = .ok (.aload_n 0, 1) := by decide +kernel
theorem dX10_is_59 : decode cX10_is 59 = .ok (.invokevirtual 190, 3) := by decide +kernel
theorem dX10_is_62 : decode cX10_is 62 = .ok (.ifCond .eq 7, 3) := by decide +kernel
theorem dX10_is_65 : decode cX10_is 65 = .ok (.iconst 1, 1) := by decide +kernel
theorem dX10_is_66 : decode cX10_is 66 = .ok (.goto 4, 3) := by decide +kernel
theorem dX10_is_69 : decode cX10_is 69 = .ok (.iconst 0, 1) := by decide +kernel
theorem dX10_is_70 : decode cX10_is 70 = .ok (.ireturn, 1) := by decide +kernel
theorem dX10_is_71 : decode cX10_is 71 = .ok (.sipush (-1002), 3) := by decide +kernel
theorem dX10_is_74 : decode cX10_is 74 = .ok (.ireturn, 1) := by decide +kernel
set_option maxRecDepth 20000 in
theorem ggX10_disc_X10_in : GoodIn wsX10_disc wsX10_in := goodIn_r _ [9] rfl (by decide +kernel)
set_option maxRecDepth 20000 in
theorem gX10_disc_X10_in : GoodIn wsX10_disc (va_wsS RX10 64 yX10_in wsX10_in) := goodIn_app (goodIn_of _ (by decide +kernel)) ggX10_disc_X10_in
set_option maxRecDepth 20000 in
theorem ggX10_disc_X10_isDisc : GoodIn wsX10_disc wsX10_isDisc := goodIn_r _ [13, 14, 15, 16, 17, 3, 4, 5, 18, 19, 20, 8, 21, 22, 23, 24, 25, 26, 27, 28, 29, 30, 31, 32, 33, 34, 35, 36, 37, 38, 39, 40, 41, 42, 43] rfl (by decide +kernel)
set_option maxRecDepth 20000 in
theorem gX10_disc_X10_isDisc : GoodIn wsX10_disc (wsV RX10 190 RX10 yX10_isDisc wsX10_isDisc) := goodIn_app (goodIn_of _ (by decide +kernel)) ggX10_disc_X10_isDisc
theorem dX10_disc_0 : decode cX10_disc 0 = .ok (.aload_n 0, 1) := by decide +kernel
theorem dX10_disc_1 : decode cX10_disc 1 = .ok (.iconst 0, 1) := by decide +kernel
theorem dX10_disc_2 : decode cX10_disc 2 = .ok (.putfield 52, 3) := by decide +kernel
theorem dX10_disc_5 : decode cX10_disc 5 = .ok (.iload_n 1, 1) := by decide +kernel
theorem dX10_disc_6 : decode cX10_disc 6 = .ok (.i2l, 1) := by decide +kernel
theorem dX10_disc_7 : decode cX10_disc 7 = .ok (.lconst 0, 1) := by decide +kernel
theorem dX10_disc_8 : decode cX10_disc 8 = .ok (.ldc2_w 95, 3) := by decide +kernel
theorem dX10_disc_11 : decode cX10_disc 11 = .ok (.invokestatic 64, 3) := by decide +kernel
theorem dX10_disc_14 : decode cX10_disc 14 = .ok (.ifCond .ne 7, 3) := by decide +kernel
theorem dX10_disc_17 : decode cX10_disc 17 = .ok (.sipush (-1002), 3) := by decide +kernel
theorem dX10_disc_20 : decode cX10_disc 20 = .ok (.ireturn, 1) := by decide +kernel
theorem dX10_disc_21 : decode cX10_disc 21 = .ok (.aload_n 0, 1) := by decide +kernel
theorem dX10_disc_22 : decode cX10_disc 22 = .ok (.invokevirtual 190, 3) := by decide +kernel
theorem dX10_disc_25 : decode cX10_disc 25 = .ok (.ifCond .ne 9, 3) := by decide +kernel
theorem dX10_disc_28 : decode cX10_disc 28 = .ok (.sipush (-999), 3) := by decide +kernel
theorem dX10_disc_31 : decode cX10_disc 31 = .ok (.goto 30, 3) := by decide +kernel
theorem dX10_disc_34 : decode cX10_disc 34 = .ok (.iload_n 1, 1) := by decide +kernel
theorem dX10_disc_35 : decode cX10_disc 35 = .ok (.ifCond .ne 10, 3) := by decide +kernel
theorem dX10_disc_38 : decode cX10_disc 38 = .ok (.aload_n 0, 1) := by decide +kernel
theorem dX10_disc_39 : decode cX10_disc 39 = .ok (.getfield 177, 3) := by decide +kernel
theorem dX10_disc_42 : decode cX10_disc 42 = .ok (.goto 19, 3) := by decide +kernel
theorem dX10_disc_45 : decode cX10_disc 45 = .ok (.iload_n 1, 1) := by decide +kernel
theorem dX10_disc_46 : decode cX10_disc 46 = .ok (.iconst 1, 1) := by decide +kernel
theorem dX10_disc_47 : decode cX10_disc 47 = .ok (.if_icmp .ne 10, 3) := by decide +kernel
theorem dX10_disc_50 : decode cX10_disc 50 = .ok (.aload_n 0, 1) := by decide +kernel
theorem dX10_disc_51 : decode cX10_disc 51 = .ok (.getfield 180, 3) := by decide +kernel
theorem dX10_disc_54 : decode cX10_disc 54 = .ok (.goto 7, 3) := by decide +kernel
theorem dX10_disc_57 : decode cX10_disc 57 = .ok (.aload_n 0, 1) := by decide +kernel
theorem dX10_disc_58 : decode cX10_disc 58 = .ok (.getfield 183, 3) := by decide +kernel
theorem dX10_disc_61 : decode cX10_disc 61 = .ok (.ireturn, 1) := by decide +kernel
set_option maxRecDepth 20000 in
theorem ggX10_part_X10_noField : GoodIn wsX10_part wsX10_noField := goodIn_r _ [7, 8, 9, 10, 6, 11, 12, 13, 14, 15, 16, 34, 35, 36, 37, 38, 39, 40, 41, 42, 43, 44, 45, 46, 47, 48, 49, 50, 51] rfl (by decide +kernel)
set_option maxRecDepth 20000 in
theorem gX10_part_X10_noField : GoodIn wsX10_part (wsV RX10 126 RX10 yX10_noField wsX10_noField) := goodIn_app (goodIn_of _ (by decide +kernel)) ggX10_part_X10_noField
set_option maxRecDepth 20000 in
theorem ggX10_part_X10_hang : GoodIn wsX10_part wsX10_hang := goodIn_r _ [20, 2, 21, 22, 8, 9, 10, 6, 11, 12, 13, 23, 24, 25, 26, 27, 28, 29, 30, 31, 32, 33, 34, 35, 36, 37, 38, 39, 40, 41, 42, 43, 44, 45, 46, 47, 48, 49, 50, 51] rfl (by decide +kernel)
set_option maxRecDepth 20000 in
theorem gX10_part_X10_hang : GoodIn wsX10_part (wsV RX10 138 RX10 yX10_hang wsX10_hang) := goodIn_app (goodIn_of _ (by decide +kernel)) ggX10_part_X10_hang
theorem dX10_part_0 : decode cX10_part 0 = .ok (.aload_n 0, 1) := by decide +kernel
theorem dX10_part_1 : decode cX10_part 1 = .ok (.iconst 0, 1) := by decide +kernel
theorem dX10_part_2 : decode cX10_part 2 = .ok (.putfield 52, 3) := by decide +kernel
theorem dX10_part_5 : decode cX10_part 5 = .ok (.aload_n 0, 1) := by decide +kernel
theorem dX10_part_6 : decode cX10_part 6 = .ok (.iload_n 1, 1) := by decide +kernel
theorem dX10_part_7 : decode cX10_part 7 = .ok (.invokevirtual 126, 3) := by decide +kernel
theorem dX10_part_10 : decode cX10_part 10 = .ok (.ifCond .eq 7, 3) := by decide +kernel
theorem dX10_part_13 : decode cX10_part 13 = .ok (.sipush (-1001), 3) := by decide +kernel
theorem dX10_part_16 : decode cX10_part 16 = .ok (.ireturn, 1) := by decide +kernel
theorem dX10_part_17 : decode cX10_part 17 = .ok (.aload_n 0, 1) := by decide +kernel
theorem dX10_part_18 : decode cX10_part 18 = .ok (.iconst 1, 1) := by decide +kernel
theorem dX10_part_19 : decode cX10_part 19 = .ok (.invokevirtual 138, 3) := by decide +kernel
theorem dX10_part_22 : decode cX10_part 22 = .ok (.aload_n 0, 1) := by decide +kernel
theorem dX10_part_23 : decode cX10_part 23 = .ok (.getfield 34, 3) := by decide +kernel
theorem dX10_part_26 : decode cX10_part 26 = .ok (.iload_n 1, 1) := by decide +kernel
theorem dX10_part_27 : decode cX10_part 27 = .ok (.iaload, 1) := by decide +kernel
theorem dX10_part_28 : decode cX10_part 28 = .ok (.ireturn, 1) := by decide +kernel
set_option maxRecDepth 20000 in
theorem ggX10_hull_X10_corners : GoodIn wsX10_hull wsX10_corners := goodIn_r _ [6, 7, 8, 9, 10, 11, 5, 12, 13, 14, 15, 16, 17, 18, 19, 20, 21, 22, 23, 24, 25, 26, 27, 28, 29, 30, 31, 32, 33, 34, 35, 36, 37, 38, 39, 40, 41, 42, 43, 44, 45, 46, 47] rfl (by decide +kernel)
set_option maxRecDepth 20000 in
theorem gX10_hull_X10_corners : GoodIn wsX10_hull (wsV RX10 158 RX10 yX10_corners wsX10_corners) := goodIn_app (goodIn_of _ (by decide +kernel)) ggX10_hull_X10_corners
theorem dX10_hull_0 : decode cX10_hull 0 = .ok (.aload_n 0, 1) := by decide +kernel
theorem dX10_hull_1 : decode cX10_hull 1 = .ok (.iconst 0, 1) := by decide +kernel
theorem dX10_hull_2 : decode cX10_hull 2 = .ok (.putfield 52, 3) := by decide +kernel
theorem dX10_hull_5 : decode cX10_hull 5 = .ok (.aload_n 0, 1) := by decide +kernel
theorem dX10_hull_6 : decode cX10_hull 6 = .ok (.invokevirtual 158, 3) := by decide +kernel
theorem dX10_hull_9 : decode cX10_hull 9 = .ok (.ireturn, 1) := by decide +kernel
set_option maxRecDepth 20000 in
theorem ggX10_corner_X10_corners : GoodIn wsX10_corner wsX10_corners := goodIn_r _ [7, 8, 9, 10, 11, 12, 6, 13, 14, 15, 16, 17, 18, 19, 20, 21, 22, 23, 24, 25, 2, 26, 27, 28, 29, 30, 31, 32, 33, 34, 35, 36, 37, 38, 39, 40, 41, 42, 43, 44, 45, 46, 47] rfl (by decide +kernel)
set_option maxRecDepth 20000 in
theorem gX10_corner_X10_corners : GoodIn wsX10_corner (wsV RX10 158 RX10 yX10_corners wsX10_corners) := goodIn_app (goodIn_of _ (by decide +kernel)) ggX10_corner_X10_corners
set_option maxRecDepth 20000 in
theorem ggX10_corner_X10_in : GoodIn wsX10_corner wsX10_in := goodIn_r _ [21] rfl (by decide +kernel)
set_option maxRecDepth 20000 in
theorem gX10_corner_X10_in : GoodIn wsX10_corner (va_wsS RX10 64 yX10_in wsX10_in) := goodIn_app (goodIn_of _ (by decide +kernel)) ggX10_corner_X10_in
theorem dX10_corner_0 : decode cX10_corner 0 = .ok (.aload_n 0, 1) := by decide +kernel
theorem dX10_corner_1 : decode cX10_corner 1 = .ok (.iconst 0, 1) := by decide +kernel
theorem dX10_corner_2 : decode cX10_corner 2 = .ok (.putfield 52, 3) := by decide +kernel
theorem dX10_corner_5 : decode cX10_corner 5 = .ok (.aload_n 0, 1) := by decide +kernel
theorem dX10_corner_6 : decode cX10_corner 6 = .ok (.invokevirtual 158, 3) := by decide +kernel
theorem dX10_corner_9 : decode cX10_corner 9 = .ok (.istore_n 2, 1) := by decide +kernel
theorem dX10_corner_10 : decode cX10_corner 10 = .ok (.iload_n 1, 1) := by decide +kernel
theorem dX10_corner_11 : decode cX10_corner 11 = .ok (.i2l, 1) := by decide +kernel
theorem dX10_corner_12 : decode cX10_corner 12 = .ok (.lconst 0, 1) := by decide +kernel
theorem dX10_corner_13 : decode cX10_corner 13 = .ok (.iload_n 2, 1) := by decide +kernel
theorem dX10_corner_14 : decode cX10_corner 14 = .ok (.iconst 1, 1) := by decide +kernel
theorem dX10_corner_15 : decode cX10_corner 15 = .ok (.isub, 1) := by decide +kernel
theorem dX10_corner_16 : decode cX10_corner 16 = .ok (.i2l, 1) := by decide +kernel
theorem dX10_corner_17 : decode cX10_corner 17 = .ok (.invokestatic 64, 3) := by decide +kernel
theorem dX10_corner_20 : decode cX10_corner 20 = .ok (.ifCond .eq 12, 3) := by decide +kernel
theorem dX10_corner_23 : decode cX10_corner 23 = .ok (.aload_n 0, 1) := by decide +kernel
theorem dX10_corner_24 : decode cX10_corner 24 = .ok (.getfield 43, 3) := by decide +kernel
theorem dX10_corner_27 : decode cX10_corner 27 = .ok (.iload_n 1, 1) := by decide +kernel
theorem dX10_corner_28 : decode cX10_corner 28 = .ok (.iaload, 1) := by decide +kernel
theorem dX10_corner_29 : decode cX10_corner 29 = .ok (.goto 6, 3) := by decide +kernel
theorem dX10_corner_32 : decode cX10_corner 32 = .ok (.sipush (-999), 3) := by decide +kernel
theorem dX10_corner_35 : decode cX10_corner 35 = .ok (.ireturn, 1) := by decide +kernel
set_option maxRecDepth 20000 in
theorem ggX10_depthOf_X10_isOf : GoodIn wsX10_depthOf wsX10_isOf := goodIn_r _ [9, 1, 4, 10, 11, 12, 8, 13, 3, 14, 15, 16, 17, 18, 19, 20, 21, 22, 23, 24, 25, 26, 27, 28, 29, 30, 31, 32, 33, 34] rfl (by decide +kernel)
set_option maxRecDepth 20000 in
theorem gX10_depthOf_X10_isOf : GoodIn wsX10_depthOf (wsV RX10 148 RX10 yX10_isOf wsX10_isOf) := goodIn_app (goodIn_of _ (by decide +kernel)) ggX10_depthOf_X10_isOf
theorem dX10_depthOf_0 : decode cX10_depthOf 0 = .ok (.aload_n 0, 1) := by decide +kernel
theorem dX10_depthOf_1 : decode cX10_depthOf 1 = .ok (.getfield 27, 3) := by decide +kernel
theorem dX10_depthOf_4 : decode cX10_depthOf 4 = .ok (.iload_n 1, 1) := by decide +kernel
theorem dX10_depthOf_5 : decode cX10_depthOf 5 = .ok (.baload, 1) := by decide +kernel
theorem dX10_depthOf_6 : decode cX10_depthOf 6 = .ok (.ifCond .eq 8, 3) := by decide +kernel
theorem dX10_depthOf_9 : decode cX10_depthOf 9 = .ok (.ldc 176, 2) := by decide +kernel
theorem dX10_depthOf_11 : decode cX10_depthOf 11 = .ok (.goto 4, 3) := by decide +kernel
theorem dX10_depthOf_14 : decode cX10_depthOf 14 = .ok (.iconst 0, 1) := by decide +kernel
theorem dX10_depthOf_15 : decode cX10_depthOf 15 = .ok (.istore_n 2, 1) := by decide +kernel
theorem dX10_depthOf_16 : decode cX10_depthOf 16 = .ok (.iconst (-1), 1) := by decide +kernel
theorem dX10_depthOf_17 : decode cX10_depthOf 17 = .ok (.istore_n 3, 1) := by decide +kernel
theorem dX10_depthOf_18 : decode cX10_depthOf 18 = .ok (.iload_n 3, 1) := by decide +kernel
theorem dX10_depthOf_19 : decode cX10_depthOf 19 = .ok (.aload_n 0, 1) := by decide +kernel
theorem dX10_depthOf_20 : decode cX10_depthOf 20 = .ok (.getfield 24, 3) := by decide +kernel
theorem dX10_depthOf_23 : decode cX10_depthOf 23 = .ok (.if_icmp .gt 84, 3) := by decide +kernel
theorem dX10_depthOf_26 : decode cX10_depthOf 26 = .ok (.iconst (-1), 1) := by decide +kernel
theorem dX10_depthOf_27 : decode cX10_depthOf 27 = .ok (.istore 4, 2) := by decide +kernel
theorem dX10_depthOf_29 : decode cX10_depthOf 29 = .ok (.iload 4, 2) := by decide +kernel
theorem dX10_depthOf_31 : decode cX10_depthOf 31 = .ok (.aload_n 0, 1) := by decide +kernel
theorem dX10_depthOf_32 : decode cX10_depthOf 32 = .ok (.getfield 20, 3) := by decide +kernel
theorem dX10_depthOf_35 : decode cX10_depthOf 35 = .ok (.if_icmp .gt 66, 3) := by decide +kernel
theorem dX10_depthOf_38 : decode cX10_depthOf 38 = .ok (.iload_n 1, 1) := by decide +kernel
theorem dX10_depthOf_39 : decode cX10_depthOf 39 = .ok (.aload_n 0, 1) := by decide +kernel
theorem dX10_depthOf_40 : decode cX10_depthOf 40 = .ok (.getfield 20, 3) := by decide +kernel
theorem dX10_depthOf_43 : decode cX10_depthOf 43 = .ok (.irem, 1) := by decide +kernel
theorem dX10_depthOf_44 : decode cX10_depthOf 44 = .ok (.iload 4, 2) := by decide +kernel
theorem dX10_depthOf_46 : decode cX10_depthOf 46 = .ok (.isub, 1) := by decide +kernel
theorem dX10_depthOf_47 : decode cX10_depthOf 47 = .ok (.istore 5, 2) := by decide +kernel
theorem dX10_depthOf_49 : decode cX10_depthOf 49 = .ok (.iload_n 1, 1) := by decide +kernel
theorem dX10_depthOf_50 : decode cX10_depthOf 50 = .ok (.aload_n 0, 1) := by decide +kernel
theorem dX10_depthOf_51 : decode cX10_depthOf 51 = .ok (.getfield 20, 3) := by decide +kernel
theorem dX10_depthOf_54 : decode cX10_depthOf 54 = .ok (.idiv, 1) := by decide +kernel
theorem dX10_depthOf_55 : decode cX10_depthOf 55 = .ok (.iload_n 3, 1) := by decide +kernel
theorem dX10_depthOf_56 : decode cX10_depthOf 56 = .ok (.isub, 1) := by decide +kernel
theorem dX10_depthOf_57 : decode cX10_depthOf 57 = .ok (.istore 6, 2) := by decide +kernel
theorem dX10_depthOf_59 : decode cX10_depthOf 59 = .ok (.iload 5, 2) := by decide +kernel
theorem dX10_depthOf_61 : decode cX10_depthOf 61 = .ok (.iload 5, 2) := by decide +kernel
theorem dX10_depthOf_63 : decode cX10_depthOf 63 = .ok (.imul, 1) := by decide +kernel
theorem dX10_depthOf_64 : decode cX10_depthOf 64 = .ok (.iload 6, 2) := by decide +kernel
theorem dX10_depthOf_66 : decode cX10_depthOf 66 = .ok (.iload 6, 2) := by decide +kernel
theorem dX10_depthOf_68 : decode cX10_depthOf 68 = .ok (.imul, 1) := by decide +kernel
theorem dX10_depthOf_69 : decode cX10_depthOf 69 = .ok (.iadd, 1) := by decide +kernel
theorem dX10_depthOf_70 : decode cX10_depthOf 70 = .ok (.istore 7, 2) := by decide +kernel
theorem dX10_depthOf_72 : decode cX10_depthOf 72 = .ok (.aload_n 0, 1) := by decide +kernel
theorem dX10_depthOf_73 : decode cX10_depthOf 73 = .ok (.iload 4, 2) := by decide +kernel
theorem dX10_depthOf_75 : decode cX10_depthOf 75 = .ok (.iload_n 3, 1) := by decide +kernel
theorem dX10_depthOf_76 : decode cX10_depthOf 76 = .ok (.invokevirtual 148, 3) := by decide +kernel
theorem dX10_depthOf_79 : decode cX10_depthOf 79 = .ok (.ifCond .ne 14, 3) := by decide +kernel
theorem dX10_depthOf_82 : decode cX10_depthOf 82 = .ok (.iload 7, 2) := by decide +kernel
theorem dX10_depthOf_84 : decode cX10_depthOf 84 = .ok (.iload_n 2, 1) := by decide +kernel
theorem dX10_depthOf_85 : decode cX10_depthOf 85 = .ok (.if_icmp .ge 8, 3) := by decide +kernel
theorem dX10_depthOf_88 : decode cX10_depthOf 88 = .ok (.iload 7, 2) := by decide +kernel
theorem dX10_depthOf_90 : decode cX10_depthOf 90 = .ok (.goto 4, 3) := by decide +kernel
theorem dX10_depthOf_93 : decode cX10_depthOf 93 = .ok (.iload_n 2, 1) := by decide +kernel
theorem dX10_depthOf_94 : decode cX10_depthOf 94 = .ok (.istore_n 2, 1) := by decide +kernel
theorem dX10_depthOf_95 : decode cX10_depthOf 95 = .ok (.iinc 4 1, 3) := by decide +kernel
theorem dX10_depthOf_98 : decode cX10_depthOf 98 = .ok (.goto (-69), 3) := by decide +kernel
theorem dX10_depthOf_101 : decode cX10_depthOf 101 = .ok (.iinc 3 1, 3) := by decide +kernel
theorem dX10_depthOf_104 : decode cX10_depthOf 104 = .ok (.goto (-86), 3) := by decide +kernel
theorem dX10_depthOf_107 : decode cX10_depthOf 107 = .ok (.iload_n 2, 1) := by decide +kernel
theorem dX10_depthOf_108 : decode cX10_depthOf 108 = .ok (.ireturn, 1) := by decide +kernel
set_option maxRecDepth 20000 in
theorem ggX10_deep_X10_noField : GoodIn wsX10_deep wsX10_noField := goodIn_r _ [6, 7, 8, 9, 5, 10, 11, 12, 13, 14, 15, 30, 31, 32, 33, 34, 35, 36, 37, 38, 39, 40, 41, 42, 43, 44, 45, 46, 47] rfl (by decide +kernel)
set_option maxRecDepth 20000 in
theorem gX10_deep_X10_noField : GoodIn wsX10_deep (wsV RX10 126 RX10 yX10_noField wsX10_noField) := goodIn_app (goodIn_of _ (by decide +kernel)) ggX10_deep_X10_noField
set_option maxRecDepth 20000 in
theorem ggX10_deep_X10_depthOf : GoodIn wsX10_deep wsX10_depthOf := goodIn_r _ [19, 20, 21, 12, 11, 22, 23, 24, 5, 25, 26, 27, 28, 29, 13, 14, 15, 30, 31, 32, 33, 34, 35, 36, 37, 38, 39, 40, 41, 42, 43, 44, 45, 46, 47] rfl (by decide +kernel)
set_option maxRecDepth 20000 in
theorem gX10_deep_X10_depthOf : GoodIn wsX10_deep (wsV RX10 193 RX10 yX10_depthOf wsX10_depthOf) := goodIn_app (goodIn_of _ (by decide +kernel)) ggX10_deep_X10_depthOf
theorem dX10_deep_0 : decode cX10_deep 0 = .ok (.aload_n 0, 1) := by decide +kernel
theorem dX10_deep_1 : decode cX10_deep 1 = .ok (.iconst 0, 1) := by decide +kernel
theorem dX10_deep_2 : decode cX10_deep 2 = .ok (.putfield 52, 3) := by decide +kernel
theorem dX10_deep_5 : decode cX10_deep 5 = .ok (.aload_n 0, 1) := by decide +kernel
theorem dX10_deep_6 : decode cX10_deep 6 = .ok (.iload_n 1, 1) := by decide +kernel
theorem dX10_deep_7 : decode cX10_deep 7 = .ok (.invokevirtual 126, 3) := by decide +kernel
theorem dX10_deep_10 : decode cX10_deep 10 = .ok (.ifCond .eq 9, 3) := by decide +kernel
theorem dX10_deep_13 : decode cX10_deep 13 = .ok (.sipush (-1001), 3) := by decide +kernel
theorem dX10_deep_16 : decode cX10_deep 16 = .ok (.goto 8, 3) := by decide +kernel
theorem dX10_deep_19 : decode cX10_deep 19 = .ok (.aload_n 0, 1) := by decide +kernel
theorem dX10_deep_20 : decode cX10_deep 20 = .ok (.iload_n 1, 1) := by decide +kernel
theorem dX10_deep_21 : decode cX10_deep 21 = .ok (.invokevirtual 193, 3) := by decide +kernel
theorem dX10_deep_24 : decode cX10_deep 24 = .ok (.ireturn, 1) := by decide +kernel
set_option maxRecDepth 20000 in
theorem ggX10_deepest_X10_fields : GoodIn wsX10_deepest wsX10_fields := goodIn_r _ [6, 7, 8, 26, 27, 28, 29, 30, 31, 32, 33, 34, 35, 36, 37, 38, 39, 40, 41, 42, 43] rfl (by decide +kernel)
set_option maxRecDepth 20000 in
theorem gX10_deepest_X10_fields : GoodIn wsX10_deepest (wsV RX10 117 RX10 yX10_fields wsX10_fields) := goodIn_app (goodIn_of _ (by decide +kernel)) ggX10_deepest_X10_fields
set_option maxRecDepth 20000 in
theorem ggX10_deepest_X10_depthOf : GoodIn wsX10_deepest wsX10_depthOf := goodIn_r _ [12, 13, 14, 8, 7, 15, 16, 17, 5, 18, 19, 20, 21, 22, 23, 24, 25, 26, 27, 28, 29, 30, 31, 32, 33, 34, 35, 36, 37, 38, 39, 40, 41, 42, 43] rfl (by decide +kernel)
set_option maxRecDepth 20000 in
theorem gX10_deepest_X10_depthOf : GoodIn wsX10_deepest (wsV RX10 193 RX10 yX10_depthOf wsX10_depthOf) := goodIn_app (goodIn_of _ (by decide +kernel)) ggX10_deepest_X10_depthOf
theorem dX10_deepest_0 : decode cX10_deepest 0 = .ok (.aload_n 0, 1) := by decide +kernel
theorem dX10_deepest_1 : decode cX10_deepest 1 = .ok (.iconst 0, 1) := by decide +kernel
theorem dX10_deepest_2 : decode cX10_deepest 2 = .ok (.putfield 52, 3) := by decide +kernel
theorem dX10_deepest_5 : decode cX10_deepest 5 = .ok (.iconst 0, 1) := by decide +kernel
theorem dX10_deepest_6 : decode cX10_deepest 6 = .ok (.istore_n 2, 1) := by decide +kernel
theorem dX10_deepest_7 : decode cX10_deepest 7 = .ok (.sipush (-999), 3) := by decide +kernel
theorem dX10_deepest_10 : decode cX10_deepest 10 = .ok (.istore_n 3, 1) := by decide +kernel
theorem dX10_deepest_11 : decode cX10_deepest 11 = .ok (.iconst 0, 1) := by decide +kernel
theorem dX10_deepest_12 : decode cX10_deepest 12 = .ok (.istore 4, 2) := by decide +kernel
theorem dX10_deepest_14 : decode cX10_deepest 14 = .ok (.iload 4, 2) := by decide +kernel
theorem dX10_deepest_16 : decode cX10_deepest 16 = .ok (.aload_n 0, 1) := by decide +kernel
theorem dX10_deepest_17 : decode cX10_deepest 17 = .ok (.invokevirtual 117, 3) := by decide +kernel
theorem dX10_deepest_20 : decode cX10_deepest 20 = .ok (.if_icmp .ge 29, 3) := by decide +kernel
theorem dX10_deepest_23 : decode cX10_deepest 23 = .ok (.aload_n 0, 1) := by decide +kernel
theorem dX10_deepest_24 : decode cX10_deepest 24 = .ok (.iload 4, 2) := by decide +kernel
theorem dX10_deepest_26 : decode cX10_deepest 26 = .ok (.invokevirtual 193, 3) := by decide +kernel
theorem dX10_deepest_29 : decode cX10_deepest 29 = .ok (.istore 5, 2) := by decide +kernel
theorem dX10_deepest_31 : decode cX10_deepest 31 = .ok (.iload 5, 2) := by decide +kernel
theorem dX10_deepest_33 : decode cX10_deepest 33 = .ok (.iload_n 2, 1) := by decide +kernel
theorem dX10_deepest_34 : decode cX10_deepest 34 = .ok (.if_icmp .le 9, 3) := by decide +kernel
theorem dX10_deepest_37 : decode cX10_deepest 37 = .ok (.iload 5, 2) := by decide +kernel
theorem dX10_deepest_39 : decode cX10_deepest 39 = .ok (.istore_n 2, 1) := by decide +kernel
theorem dX10_deepest_40 : decode cX10_deepest 40 = .ok (.iload 4, 2) := by decide +kernel
theorem dX10_deepest_42 : decode cX10_deepest 42 = .ok (.istore_n 3, 1) := by decide +kernel
theorem dX10_deepest_43 : decode cX10_deepest 43 = .ok (.iinc 4 1, 3) := by decide +kernel
theorem dX10_deepest_46 : decode cX10_deepest 46 = .ok (.goto (-32), 3) := by decide +kernel
theorem dX10_deepest_49 : decode cX10_deepest 49 = .ok (.iload_n 1, 1) := by decide +kernel
theorem dX10_deepest_50 : decode cX10_deepest 50 = .ok (.ifCond .eq 7, 3) := by decide +kernel
theorem dX10_deepest_53 : decode cX10_deepest 53 = .ok (.iload_n 3, 1) := by decide +kernel
theorem dX10_deepest_54 : decode cX10_deepest 54 = .ok (.goto 4, 3) := by decide +kernel
theorem dX10_deepest_57 : decode cX10_deepest 57 = .ok (.iload_n 2, 1) := by decide +kernel
theorem dX10_deepest_58 : decode cX10_deepest 58 = .ok (.ireturn, 1) := by decide +kernel
set_option maxRecDepth 20000 in
theorem ggX10_measure_X10_fields : GoodIn wsX10_measure wsX10_fields := goodIn_r _ [6, 7, 8, 26, 27, 28, 29, 30, 31, 32, 33, 34, 35, 36, 37, 38, 39, 40, 41, 42, 43] rfl (by decide +kernel)
set_option maxRecDepth 20000 in
theorem gX10_measure_X10_fields : GoodIn wsX10_measure (wsV RX10 117 RX10 yX10_fields wsX10_fields) := goodIn_app (goodIn_of _ (by decide +kernel)) ggX10_measure_X10_fields
set_option maxRecDepth 20000 in
theorem ggX10_measure_X10_depthOf : GoodIn wsX10_measure wsX10_depthOf := goodIn_r _ [12, 13, 14, 8, 7, 15, 16, 17, 5, 18, 19, 20, 21, 22, 23, 24, 25, 26, 27, 28, 29, 30, 31, 32, 33, 34, 35, 36, 37, 38, 39, 40, 41, 42, 43] rfl (by decide +kernel)
set_option maxRecDepth 20000 in
theorem gX10_measure_X10_depthOf : GoodIn wsX10_measure (wsV RX10 193 RX10 yX10_depthOf wsX10_depthOf) := goodIn_app (goodIn_of _ (by decide +kernel)) ggX10_measure_X10_depthOf
theorem dX10_measure_0 : decode cX10_measure 0 = .ok (.iconst 0, 1) := by decide +kernel
theorem dX10_measure_1 : decode cX10_measure 1 = .ok (.istore_n 1, 1) := by decide +kernel
theorem dX10_measure_2 : decode cX10_measure 2 = .ok (.iload_n 1, 1) := by decide +kernel
theorem dX10_measure_3 : decode cX10_measure 3 = .ok (.aload_n 0, 1) := by decide +kernel
theorem dX10_measure_4 : decode cX10_measure 4 = .ok (.invokevirtual 117, 3) := by decide +kernel
theorem dX10_measure_7 : decode cX10_measure 7 = .ok (.if_icmp .ge 20, 3) := by decide +kernel
theorem dX10_measure_10 : decode cX10_measure 10 = .ok (.aload_n 0, 1) := by decide +kernel
theorem dX10_measure_11 : decode cX10_measure 11 = .ok (.getfield 37, 3) := by decide +kernel
theorem dX10_measure_14 : decode cX10_measure 14 = .ok (.iload_n 1, 1) := by decide +kernel
theorem dX10_measure_15 : decode cX10_measure 15 = .ok (.aload_n 0, 1) := by decide +kernel
theorem dX10_measure_16 : decode cX10_measure 16 = .ok (.iload_n 1, 1) := by decide +kernel
theorem dX10_measure_17 : decode cX10_measure 17 = .ok (.invokevirtual 193, 3) := by decide +kernel
theorem dX10_measure_20 : decode cX10_measure 20 = .ok (.iastore, 1) := by decide +kernel
theorem dX10_measure_21 : decode cX10_measure 21 = .ok (.iinc 1 1, 3) := by decide +kernel
theorem dX10_measure_24 : decode cX10_measure 24 = .ok (.goto (-22), 3) := by decide +kernel
theorem dX10_measure_27 : decode cX10_measure 27 = .ok (.return_, 1) := by decide +kernel
set_option maxRecDepth 20000 in
theorem ggX10_isNeeded_X10_fields : GoodIn wsX10_isNeeded wsX10_fields := goodIn_r _ [9, 2, 10, 11, 12, 13, 14, 15, 16, 17, 18, 19, 20, 21, 22, 23, 24, 25, 26, 27, 28] rfl (by decide +kernel)
set_option maxRecDepth 20000 in
theorem gX10_isNeeded_X10_fields : GoodIn wsX10_isNeeded (wsV RX10 117 RX10 yX10_fields wsX10_fields) := goodIn_app (goodIn_of _ (by decide +kernel)) ggX10_isNeeded_X10_fields
theorem dX10_isNeeded_0 : decode cX10_isNeeded 0 = .ok (.aload_n 0, 1) := by decide +kernel
theorem dX10_isNeeded_1 : decode cX10_isNeeded 1 = .ok (.getfield 27, 3) := by decide +kernel
theorem dX10_isNeeded_4 : decode cX10_isNeeded 4 = .ok (.iload_n 1, 1) := by decide +kernel
theorem dX10_isNeeded_5 : decode cX10_isNeeded 5 = .ok (.baload, 1) := by decide +kernel
theorem dX10_isNeeded_6 : decode cX10_isNeeded 6 = .ok (.istore_n 2, 1) := by decide +kernel
theorem dX10_isNeeded_7 : decode cX10_isNeeded 7 = .ok (.iconst 0, 1) := by decide +kernel
theorem dX10_isNeeded_8 : decode cX10_isNeeded 8 = .ok (.istore_n 3, 1) := by decide +kernel
theorem dX10_isNeeded_9 : decode cX10_isNeeded 9 = .ok (.iload_n 3, 1) := by decide +kernel
theorem dX10_isNeeded_10 : decode cX10_isNeeded 10 = .ok (.aload_n 0, 1) := by decide +kernel
theorem dX10_isNeeded_11 : decode cX10_isNeeded 11 = .ok (.invokevirtual 117, 3) := by decide +kernel
theorem dX10_isNeeded_14 : decode cX10_isNeeded 14 = .ok (.if_icmp .ge 139, 3) := by decide +kernel
theorem dX10_isNeeded_17 : decode cX10_isNeeded 17 = .ok (.iload_n 2, 1) := by decide +kernel
theorem dX10_isNeeded_18 : decode cX10_isNeeded 18 = .ok (.ifCond .eq 135, 3) := by decide +kernel
theorem dX10_isNeeded_21 : decode cX10_isNeeded 21 = .ok (.iload_n 1, 1) := by decide +kernel
theorem dX10_isNeeded_22 : decode cX10_isNeeded 22 = .ok (.aload_n 0, 1) := by decide +kernel
theorem dX10_isNeeded_23 : decode cX10_isNeeded 23 = .ok (.getfield 20, 3) := by decide +kernel
theorem dX10_isNeeded_26 : decode cX10_isNeeded 26 = .ok (.irem, 1) := by decide +kernel
theorem dX10_isNeeded_27 : decode cX10_isNeeded 27 = .ok (.iload_n 3, 1) := by decide +kernel
theorem dX10_isNeeded_28 : decode cX10_isNeeded 28 = .ok (.aload_n 0, 1) := by decide +kernel
theorem dX10_isNeeded_29 : decode cX10_isNeeded 29 = .ok (.getfield 20, 3) := by decide +kernel
theorem dX10_isNeeded_32 : decode cX10_isNeeded 32 = .ok (.irem, 1) := by decide +kernel
theorem dX10_isNeeded_33 : decode cX10_isNeeded 33 = .ok (.isub, 1) := by decide +kernel
theorem dX10_isNeeded_34 : decode cX10_isNeeded 34 = .ok (.istore 4, 2) := by decide +kernel
theorem dX10_isNeeded_36 : decode cX10_isNeeded 36 = .ok (.iload_n 1, 1) := by decide +kernel
theorem dX10_isNeeded_37 : decode cX10_isNeeded 37 = .ok (.aload_n 0, 1) := by decide +kernel
theorem dX10_isNeeded_38 : decode cX10_isNeeded 38 = .ok (.getfield 20, 3) := by decide +kernel
theorem dX10_isNeeded_41 : decode cX10_isNeeded 41 = .ok (.idiv, 1) := by decide +kernel
theorem dX10_isNeeded_42 : decode cX10_isNeeded 42 = .ok (.iload_n 3, 1) := by decide +kernel
theorem dX10_isNeeded_43 : decode cX10_isNeeded 43 = .ok (.aload_n 0, 1) := by decide +kernel
theorem dX10_isNeeded_44 : decode cX10_isNeeded 44 = .ok (.getfield 20, 3) := by decide +kernel
theorem dX10_isNeeded_47 : decode cX10_isNeeded 47 = .ok (.idiv, 1) := by decide +kernel
theorem dX10_isNeeded_48 : decode cX10_isNeeded 48 = .ok (.isub, 1) := by decide +kernel
theorem dX10_isNeeded_49 : decode cX10_isNeeded 49 = .ok (.istore 5, 2) := by decide +kernel
theorem dX10_isNeeded_51 : decode cX10_isNeeded 51 = .ok (.iload 4, 2) := by decide +kernel
theorem dX10_isNeeded_53 : decode cX10_isNeeded 53 = .ok (.iload 4, 2) := by decide +kernel
theorem dX10_isNeeded_55 : decode cX10_isNeeded 55 = .ok (.imul, 1) := by decide +kernel
theorem dX10_isNeeded_56 : decode cX10_isNeeded 56 = .ok (.iload 5, 2) := by decide +kernel
theorem dX10_isNeeded_58 : decode cX10_isNeeded 58 = .ok (.iload 5, 2) := by decide +kernel
theorem dX10_isNeeded_60 : decode cX10_isNeeded 60 = .ok (.imul, 1) := by decide +kernel
theorem dX10_isNeeded_61 : decode cX10_isNeeded 61 = .ok (.iadd, 1) := by decide +kernel
theorem dX10_isNeeded_62 : decode cX10_isNeeded 62 = .ok (.i2l, 1) := by decide +kernel
theorem dX10_isNeeded_63 : decode cX10_isNeeded 63 = .ok (.lstore 6, 2) := by decide +kernel
theorem dX10_isNeeded_65 : decode cX10_isNeeded 65 = .ok (.aload_n 0, 1) := by decide +kernel
theorem dX10_isNeeded_66 : decode cX10_isNeeded 66 = .ok (.getfield 37, 3) := by decide +kernel
theorem dX10_isNeeded_69 : decode cX10_isNeeded 69 = .ok (.iload_n 3, 1) := by decide +kernel
theorem dX10_isNeeded_70 : decode cX10_isNeeded 70 = .ok (.iaload, 1) := by decide +kernel
theorem dX10_isNeeded_71 : decode cX10_isNeeded 71 = .ok (.i2l, 1) := by decide +kernel
theorem dX10_isNeeded_72 : decode cX10_isNeeded 72 = .ok (.lload 6, 2) := by decide +kernel
theorem dX10_isNeeded_74 : decode cX10_isNeeded 74 = .ok (.lsub, 1) := by decide +kernel
theorem dX10_isNeeded_75 : decode cX10_isNeeded 75 = .ok (.aload_n 0, 1) := by decide +kernel
theorem dX10_isNeeded_76 : decode cX10_isNeeded 76 = .ok (.getfield 37, 3) := by decide +kernel
theorem dX10_isNeeded_79 : decode cX10_isNeeded 79 = .ok (.iload_n 1, 1) := by decide +kernel
theorem dX10_isNeeded_80 : decode cX10_isNeeded 80 = .ok (.iaload, 1) := by decide +kernel
theorem dX10_isNeeded_81 : decode cX10_isNeeded 81 = .ok (.i2l, 1) := by decide +kernel
theorem dX10_isNeeded_82 : decode cX10_isNeeded 82 = .ok (.lsub, 1) := by decide +kernel
theorem dX10_isNeeded_83 : decode cX10_isNeeded 83 = .ok (.lstore 8, 2) := by decide +kernel
theorem dX10_isNeeded_85 : decode cX10_isNeeded 85 = .ok (.iload_n 3, 1) := by decide +kernel
theorem dX10_isNeeded_86 : decode cX10_isNeeded 86 = .ok (.iload_n 1, 1) := by decide +kernel
theorem dX10_isNeeded_87 : decode cX10_isNeeded 87 = .ok (.if_icmp .eq 46, 3) := by decide +kernel
theorem dX10_isNeeded_90 : decode cX10_isNeeded 90 = .ok (.aload_n 0, 1) := by decide +kernel
theorem dX10_isNeeded_91 : decode cX10_isNeeded 91 = .ok (.getfield 27, 3) := by decide +kernel
theorem dX10_isNeeded_94 : decode cX10_isNeeded 94 = .ok (.iload_n 3, 1) := by decide +kernel
theorem dX10_isNeeded_95 : decode cX10_isNeeded 95 = .ok (.baload, 1) := by decide +kernel
theorem dX10_isNeeded_96 : decode cX10_isNeeded 96 = .ok (.ifCond .eq 37, 3) := by decide +kernel
theorem dX10_isNeeded_99 : decode cX10_isNeeded 99 = .ok (.lload 8, 2) := by decide +kernel
theorem dX10_isNeeded_101 : decode cX10_isNeeded 101 = .ok (.lconst 0, 1) := by decide +kernel
theorem dX10_isNeeded_102 : decode cX10_isNeeded 102 = .ok (.lcmp, 1) := by decide +kernel
theorem dX10_isNeeded_103 : decode cX10_isNeeded 103 = .ok (.ifCond .lt 30, 3) := by decide +kernel
theorem dX10_isNeeded_106 : decode cX10_isNeeded 106 = .ok (.lload 8, 2) := by decide +kernel
theorem dX10_isNeeded_108 : decode cX10_isNeeded 108 = .ok (.lload 8, 2) := by decide +kernel
theorem dX10_isNeeded_110 : decode cX10_isNeeded 110 = .ok (.lmul, 1) := by decide +kernel
theorem dX10_isNeeded_111 : decode cX10_isNeeded 111 = .ok (.ldc2_w 196, 3) := by decide +kernel
theorem dX10_isNeeded_114 : decode cX10_isNeeded 114 = .ok (.lload 6, 2) := by decide +kernel
theorem dX10_isNeeded_116 : decode cX10_isNeeded 116 = .ok (.lmul, 1) := by decide +kernel
theorem dX10_isNeeded_117 : decode cX10_isNeeded 117 = .ok (.aload_n 0, 1) := by decide +kernel
theorem dX10_isNeeded_118 : decode cX10_isNeeded 118 = .ok (.getfield 37, 3) := by decide +kernel
theorem dX10_isNeeded_121 : decode cX10_isNeeded 121 = .ok (.iload_n 1, 1) := by decide +kernel
theorem dX10_isNeeded_122 : decode cX10_isNeeded 122 = .ok (.iaload, 1) := by decide +kernel
theorem dX10_isNeeded_123 : decode cX10_isNeeded 123 = .ok (.i2l, 1) := by decide +kernel
theorem dX10_isNeeded_124 : decode cX10_isNeeded 124 = .ok (.lmul, 1) := by decide +kernel
theorem dX10_isNeeded_125 : decode cX10_isNeeded 125 = .ok (.lcmp, 1) := by decide +kernel
theorem dX10_isNeeded_126 : decode cX10_isNeeded 126 = .ok (.ifCond .lt 7, 3) := by decide +kernel
theorem dX10_isNeeded_129 : decode cX10_isNeeded 129 = .ok (.iconst 1, 1) := by decide +kernel
theorem dX10_isNeeded_130 : decode cX10_isNeeded 130 = .ok (.goto 4, 3) := by decide +kernel
theorem dX10_isNeeded_133 : decode cX10_isNeeded 133 = .ok (.iconst 0, 1) := by decide +kernel
theorem dX10_isNeeded_134 : decode cX10_isNeeded 134 = .ok (.istore 10, 2) := by decide +kernel
theorem dX10_isNeeded_136 : decode cX10_isNeeded 136 = .ok (.iload 10, 2) := by decide +kernel
theorem dX10_isNeeded_138 : decode cX10_isNeeded 138 = .ok (.ifCond .ne 7, 3) := by decide +kernel
theorem dX10_isNeeded_141 : decode cX10_isNeeded 141 = .ok (.iconst 1, 1) := by decide +kernel
theorem dX10_isNeeded_142 : decode cX10_isNeeded 142 = .ok (.goto 4, 3) := by decide +kernel
theorem dX10_isNeeded_145 : decode cX10_isNeeded 145 = .ok (.iconst 0, 1) := by decide +kernel
theorem dX10_isNeeded_146 : decode cX10_isNeeded 146 = .ok (.istore_n 2, 1) := by decide +kernel
theorem dX10_isNeeded_147 : decode cX10_isNeeded 147 = .ok (.iinc 3 1, 3) := by decide +kernel
theorem dX10_isNeeded_150 : decode cX10_isNeeded 150 = .ok (.goto (-141), 3) := by decide +kernel
theorem dX10_isNeeded_153 : decode cX10_isNeeded 153 = .ok (.iload_n 2, 1) := by decide +kernel
theorem dX10_isNeeded_154 : decode cX10_isNeeded 154 = .ok (.ireturn, 1) := by decide +kernel
set_option maxRecDepth 20000 in
theorem ggX10_needed_X10_noField : GoodIn wsX10_needed wsX10_noField := goodIn_r _ [6, 7, 8, 9, 5, 10, 11, 12, 13, 14, 15, 40, 41, 42, 43, 44, 45, 46, 47, 48, 49, 50, 51, 52, 53, 54, 55, 56, 57] rfl (by decide +kernel)
set_option maxRecDepth 20000 in
theorem gX10_needed_X10_noField : GoodIn wsX10_needed (wsV RX10 126 RX10 yX10_noField wsX10_noField) := goodIn_app (goodIn_of _ (by decide +kernel)) ggX10_needed_X10_noField
set_option maxRecDepth 20000 in
theorem ggX10_needed_X10_measure : GoodIn wsX10_needed wsX10_measure := goodIn_r _ [19, 20, 7, 8, 9, 5, 10, 11, 12, 21, 22, 23, 24, 25, 26, 27, 28, 29, 30, 31, 32, 33, 34, 13, 14, 15, 40, 41, 42, 43, 44, 45, 46, 47, 48, 49, 50, 51, 52, 53, 54, 55, 56, 57] rfl (by decide +kernel)
set_option maxRecDepth 20000 in
theorem gX10_needed_X10_measure : GoodIn wsX10_needed (wsV RX10 198 RX10 yX10_measure wsX10_measure) := goodIn_app (goodIn_of _ (by decide +kernel)) ggX10_needed_X10_measure
set_option maxRecDepth 20000 in
theorem ggX10_needed_X10_isNeeded : GoodIn wsX10_needed wsX10_isNeeded := goodIn_r _ [38, 25, 11, 20, 39, 7, 8, 9, 5, 10, 12, 40, 41, 42, 43, 44, 45, 46, 47, 48, 49, 50, 51, 52, 53, 54, 55, 56, 57] rfl (by decide +kernel)
set_option maxRecDepth 20000 in
theorem gX10_needed_X10_isNeeded : GoodIn wsX10_needed (wsV RX10 201 RX10 yX10_isNeeded wsX10_isNeeded) := goodIn_app (goodIn_of _ (by decide +kernel)) ggX10_needed_X10_isNeeded
theorem dX10_needed_0 : decode cX10_needed 0 = .ok (.aload_n 0, 1) := by decide +kernel
theorem dX10_needed_1 : decode cX10_needed 1 = .ok (.iconst 0, 1) := by decide +kernel
theorem dX10_needed_2 : decode cX10_needed 2 = .ok (.putfield 52, 3) := by decide +kernel
theorem dX10_needed_5 : decode cX10_needed 5 = .ok (.aload_n 0, 1) := by decide +kernel
theorem dX10_needed_6 : decode cX10_needed 6 = .ok (.iload_n 1, 1) := by decide +kernel
theorem dX10_needed_7 : decode cX10_needed 7 = .ok (.invokevirtual 126, 3) := by decide +kernel
theorem dX10_needed_10 : decode cX10_needed 10 = .ok (.ifCond .eq 7, 3) := by decide +kernel
theorem dX10_needed_13 : decode cX10_needed 13 = .ok (.sipush (-1001), 3) := by decide +kernel
theorem dX10_needed_16 : decode cX10_needed 16 = .ok (.ireturn, 1) := by decide +kernel
theorem dX10_needed_17 : decode cX10_needed 17 = .ok (.aload_n 0, 1) := by decide +kernel
theorem dX10_needed_18 : decode cX10_needed 18 = .ok (.invokevirtual 198, 3) := by decide +kernel
theorem dX10_needed_21 : decode cX10_needed 21 = .ok (.aload_n 0, 1) := by decide +kernel
theorem dX10_needed_22 : decode cX10_needed 22 = .ok (.iload_n 1, 1) := by decide +kernel
theorem dX10_needed_23 : decode cX10_needed 23 = .ok (.invokevirtual 201, 3) := by decide +kernel
theorem dX10_needed_26 : decode cX10_needed 26 = .ok (.ifCond .eq 7, 3) := by decide +kernel
theorem dX10_needed_29 : decode cX10_needed 29 = .ok (.iconst 1, 1) := by decide +kernel
theorem dX10_needed_30 : decode cX10_needed 30 = .ok (.goto 4, 3) := by decide +kernel
theorem dX10_needed_33 : decode cX10_needed 33 = .ok (.iconst 0, 1) := by decide +kernel
theorem dX10_needed_34 : decode cX10_needed 34 = .ok (.ireturn, 1) := by decide +kernel
set_option maxRecDepth 20000 in
theorem ggX10_balls_X10_measure : GoodIn wsX10_balls wsX10_measure := goodIn_r _ [6, 7, 8, 9, 10, 5, 11, 12, 13, 14, 15, 16, 17, 18, 19, 20, 21, 22, 23, 24, 25, 26, 27, 28, 29, 30, 36, 37, 38, 39, 40, 41, 42, 43, 44, 45, 46, 47, 48, 49, 50, 51, 52, 53] rfl (by decide +kernel)
set_option maxRecDepth 20000 in
theorem gX10_balls_X10_measure : GoodIn wsX10_balls (wsV RX10 198 RX10 yX10_measure wsX10_measure) := goodIn_app (goodIn_of _ (by decide +kernel)) ggX10_balls_X10_measure
set_option maxRecDepth 20000 in
theorem ggX10_balls_X10_fields : GoodIn wsX10_balls wsX10_fields := goodIn_r _ [11, 12, 13, 36, 37, 38, 39, 40, 41, 42, 43, 44, 45, 46, 47, 48, 49, 50, 51, 52, 53] rfl (by decide +kernel)
set_option maxRecDepth 20000 in
theorem gX10_balls_X10_fields : GoodIn wsX10_balls (wsV RX10 117 RX10 yX10_fields wsX10_fields) := goodIn_app (goodIn_of _ (by decide +kernel)) ggX10_balls_X10_fields
set_option maxRecDepth 20000 in
theorem ggX10_balls_X10_isNeeded : GoodIn wsX10_balls wsX10_isNeeded := goodIn_r _ [34, 18, 12, 7, 35, 8, 9, 10, 5, 11, 13, 36, 37, 38, 39, 40, 41, 42, 43, 44, 45, 46, 47, 48, 49, 50, 51, 52, 53] rfl (by decide +kernel)
set_option maxRecDepth 20000 in
theorem gX10_balls_X10_isNeeded : GoodIn wsX10_balls (wsV RX10 201 RX10 yX10_isNeeded wsX10_isNeeded) := goodIn_app (goodIn_of _ (by decide +kernel)) ggX10_balls_X10_isNeeded
theorem dX10_balls_0 : decode cX10_balls 0 = .ok (.aload_n 0, 1) := by decide +kernel
theorem dX10_balls_1 : decode cX10_balls 1 = .ok (.iconst 0, 1) := by decide +kernel
theorem dX10_balls_2 : decode cX10_balls 2 = .ok (.putfield 52, 3) := by decide +kernel
theorem dX10_balls_5 : decode cX10_balls 5 = .ok (.aload_n 0, 1) := by decide +kernel
theorem dX10_balls_6 : decode cX10_balls 6 = .ok (.invokevirtual 198, 3) := by decide +kernel
theorem dX10_balls_9 : decode cX10_balls 9 = .ok (.iconst 0, 1) := by decide +kernel
theorem dX10_balls_10 : decode cX10_balls 10 = .ok (.istore_n 1, 1) := by decide +kernel
theorem dX10_balls_11 : decode cX10_balls 11 = .ok (.iconst 0, 1) := by decide +kernel
theorem dX10_balls_12 : decode cX10_balls 12 = .ok (.istore_n 2, 1) := by decide +kernel
theorem dX10_balls_13 : decode cX10_balls 13 = .ok (.iload_n 2, 1) := by decide +kernel
theorem dX10_balls_14 : decode cX10_balls 14 = .ok (.aload_n 0, 1) := by decide +kernel
theorem dX10_balls_15 : decode cX10_balls 15 = .ok (.invokevirtual 117, 3) := by decide +kernel
theorem dX10_balls_18 : decode cX10_balls 18 = .ok (.if_icmp .ge 25, 3) := by decide +kernel
theorem dX10_balls_21 : decode cX10_balls 21 = .ok (.iload_n 1, 1) := by decide +kernel
theorem dX10_balls_22 : decode cX10_balls 22 = .ok (.aload_n 0, 1) := by decide +kernel
theorem dX10_balls_23 : decode cX10_balls 23 = .ok (.iload_n 2, 1) := by decide +kernel
theorem dX10_balls_24 : decode cX10_balls 24 = .ok (.invokevirtual 201, 3) := by decide +kernel
theorem dX10_balls_27 : decode cX10_balls 27 = .ok (.ifCond .eq 7, 3) := by decide +kernel
theorem dX10_balls_30 : decode cX10_balls 30 = .ok (.iconst 1, 1) := by decide +kernel
theorem dX10_balls_31 : decode cX10_balls 31 = .ok (.goto 4, 3) := by decide +kernel
theorem dX10_balls_34 : decode cX10_balls 34 = .ok (.iconst 0, 1) := by decide +kernel
theorem dX10_balls_35 : decode cX10_balls 35 = .ok (.iadd, 1) := by decide +kernel
theorem dX10_balls_36 : decode cX10_balls 36 = .ok (.istore_n 1, 1) := by decide +kernel
theorem dX10_balls_37 : decode cX10_balls 37 = .ok (.iinc 2 1, 3) := by decide +kernel
theorem dX10_balls_40 : decode cX10_balls 40 = .ok (.goto (-27), 3) := by decide +kernel
theorem dX10_balls_43 : decode cX10_balls 43 = .ok (.iload_n 1, 1) := by decide +kernel
theorem dX10_balls_44 : decode cX10_balls 44 = .ok (.ireturn, 1) := by decide +kernel
set_option maxRecDepth 20000 in
theorem ggX10_groups_X10_size : GoodIn wsX10_groups wsX10_size := goodIn_r _ [6] rfl (by decide +kernel)
set_option maxRecDepth 20000 in
theorem gX10_groups_X10_size : GoodIn wsX10_groups (va_wsS RX10 83 yX10_size wsX10_size) := goodIn_app (goodIn_of _ (by decide +kernel)) ggX10_groups_X10_size
theorem dX10_groups_0 : decode cX10_groups 0 = .ok (.iconst 0, 1) := by decide +kernel
theorem dX10_groups_1 : decode cX10_groups 1 = .ok (.istore_n 2, 1) := by decide +kernel
theorem dX10_groups_2 : decode cX10_groups 2 = .ok (.iload_n 2, 1) := by decide +kernel
theorem dX10_groups_3 : decode cX10_groups 3 = .ok (.bipush 9, 2) := by decide +kernel
theorem dX10_groups_5 : decode cX10_groups 5 = .ok (.if_icmp .ge 37, 3) := by decide +kernel
theorem dX10_groups_8 : decode cX10_groups 8 = .ok (.aload_n 0, 1) := by decide +kernel
theorem dX10_groups_9 : decode cX10_groups 9 = .ok (.getfield 49, 3) := by decide +kernel
theorem dX10_groups_12 : decode cX10_groups 12 = .ok (.iload_n 2, 1) := by decide +kernel
theorem dX10_groups_13 : decode cX10_groups 13 = .ok (.iload_n 2, 1) := by decide +kernel
theorem dX10_groups_14 : decode cX10_groups 14 = .ok (.iconst 4, 1) := by decide +kernel
theorem dX10_groups_15 : decode cX10_groups 15 = .ok (.if_icmp .eq 17, 3) := by decide +kernel
theorem dX10_groups_18 : decode cX10_groups 18 = .ok (.aload_n 0, 1) := by decide +kernel
theorem dX10_groups_19 : decode cX10_groups 19 = .ok (.getfield 46, 3) := by decide +kernel
theorem dX10_groups_22 : decode cX10_groups 22 = .ok (.iload_n 2, 1) := by decide +kernel
theorem dX10_groups_23 : decode cX10_groups 23 = .ok (.baload, 1) := by decide +kernel
theorem dX10_groups_24 : decode cX10_groups 24 = .ok (.iload_n 1, 1) := by decide +kernel
theorem dX10_groups_25 : decode cX10_groups 25 = .ok (.if_icmp .ne 7, 3) := by decide +kernel
theorem dX10_groups_28 : decode cX10_groups 28 = .ok (.iload_n 2, 1) := by decide +kernel
theorem dX10_groups_29 : decode cX10_groups 29 = .ok (.goto 6, 3) := by decide +kernel
theorem dX10_groups_32 : decode cX10_groups 32 = .ok (.sipush (-999), 3) := by decide +kernel
theorem dX10_groups_35 : decode cX10_groups 35 = .ok (.iastore, 1) := by decide +kernel
theorem dX10_groups_36 : decode cX10_groups 36 = .ok (.iinc 2 1, 3) := by decide +kernel
theorem dX10_groups_39 : decode cX10_groups 39 = .ok (.goto (-37), 3) := by decide +kernel
theorem dX10_groups_42 : decode cX10_groups 42 = .ok (.iconst 0, 1) := by decide +kernel
theorem dX10_groups_43 : decode cX10_groups 43 = .ok (.istore_n 2, 1) := by decide +kernel
theorem dX10_groups_44 : decode cX10_groups 44 = .ok (.iload_n 2, 1) := by decide +kernel
theorem dX10_groups_45 : decode cX10_groups 45 = .ok (.bipush 9, 2) := by decide +kernel
theorem dX10_groups_47 : decode cX10_groups 47 = .ok (.if_icmp .ge 185, 3) := by decide +kernel
theorem dX10_groups_50 : decode cX10_groups 50 = .ok (.iconst 0, 1) := by decide +kernel
theorem dX10_groups_51 : decode cX10_groups 51 = .ok (.istore_n 3, 1) := by decide +kernel
theorem dX10_groups_52 : decode cX10_groups 52 = .ok (.iload_n 3, 1) := by decide +kernel
theorem dX10_groups_53 : decode cX10_groups 53 = .ok (.bipush 9, 2) := by decide +kernel
theorem dX10_groups_55 : decode cX10_groups 55 = .ok (.if_icmp .ge 171, 3) := by decide +kernel
theorem dX10_groups_58 : decode cX10_groups 58 = .ok (.iconst 0, 1) := by decide +kernel
theorem dX10_groups_59 : decode cX10_groups 59 = .ok (.istore 4, 2) := by decide +kernel
theorem dX10_groups_61 : decode cX10_groups 61 = .ok (.iload 4, 2) := by decide +kernel
theorem dX10_groups_63 : decode cX10_groups 63 = .ok (.bipush 9, 2) := by decide +kernel
theorem dX10_groups_65 : decode cX10_groups 65 = .ok (.if_icmp .ge 155, 3) := by decide +kernel
theorem dX10_groups_68 : decode cX10_groups 68 = .ok (.iload_n 3, 1) := by decide +kernel
theorem dX10_groups_69 : decode cX10_groups 69 = .ok (.iconst 3, 1) := by decide +kernel
theorem dX10_groups_70 : decode cX10_groups 70 = .ok (.irem, 1) := by decide +kernel
theorem dX10_groups_71 : decode cX10_groups 71 = .ok (.iload 4, 2) := by decide +kernel
theorem dX10_groups_73 : decode cX10_groups 73 = .ok (.iconst 3, 1) := by decide +kernel
theorem dX10_groups_74 : decode cX10_groups 74 = .ok (.irem, 1) := by decide +kernel
theorem dX10_groups_75 : decode cX10_groups 75 = .ok (.isub, 1) := by decide +kernel
theorem dX10_groups_76 : decode cX10_groups 76 = .ok (.invokestatic 83, 3) := by decide +kernel
theorem dX10_groups_79 : decode cX10_groups 79 = .ok (.istore 5, 2) := by decide +kernel
theorem dX10_groups_81 : decode cX10_groups 81 = .ok (.iload_n 3, 1) := by decide +kernel
theorem dX10_groups_82 : decode cX10_groups 82 = .ok (.iconst 3, 1) := by decide +kernel
theorem dX10_groups_83 : decode cX10_groups 83 = .ok (.idiv, 1) := by decide +kernel
theorem dX10_groups_84 : decode cX10_groups 84 = .ok (.iload 4, 2) := by decide +kernel
theorem dX10_groups_86 : decode cX10_groups 86 = .ok (.iconst 3, 1) := by decide +kernel
theorem dX10_groups_87 : decode cX10_groups 87 = .ok (.idiv, 1) := by decide +kernel
theorem dX10_groups_88 : decode cX10_groups 88 = .ok (.isub, 1) := by decide +kernel
theorem dX10_groups_89 : decode cX10_groups 89 = .ok (.invokestatic 83, 3) := by decide +kernel
theorem dX10_groups_92 : decode cX10_groups 92 = .ok (.istore 6, 2) := by decide +kernel
theorem dX10_groups_94 : decode cX10_groups 94 = .ok (.iload_n 1, 1) := by decide +kernel
theorem dX10_groups_95 : decode cX10_groups 95 = .ok (.ifCond .eq 23, 3) := by decide +kernel
theorem dX10_groups_98 : decode cX10_groups 98 = .ok (.iload 5, 2) := by decide +kernel
theorem dX10_groups_100 : decode cX10_groups 100 = .ok (.iconst 2, 1) := by decide +kernel
theorem dX10_groups_101 : decode cX10_groups 101 = .ok (.if_icmp .ge 13, 3) := by decide +kernel
theorem dX10_groups_104 : decode cX10_groups 104 = .ok (.iload 6, 2) := by decide +kernel
theorem dX10_groups_106 : decode cX10_groups 106 = .ok (.iconst 2, 1) := by decide +kernel
theorem dX10_groups_107 : decode cX10_groups 107 = .ok (.if_icmp .ge 7, 3) := by decide +kernel
theorem dX10_groups_110 : decode cX10_groups 110 = .ok (.iconst 1, 1) := by decide +kernel
theorem dX10_groups_111 : decode cX10_groups 111 = .ok (.goto 21, 3) := by decide +kernel
theorem dX10_groups_114 : decode cX10_groups 114 = .ok (.iconst 0, 1) := by decide +kernel
theorem dX10_groups_115 : decode cX10_groups 115 = .ok (.goto 17, 3) := by decide +kernel
theorem dX10_groups_118 : decode cX10_groups 118 = .ok (.iload 5, 2) := by decide +kernel
theorem dX10_groups_120 : decode cX10_groups 120 = .ok (.iload 6, 2) := by decide +kernel
theorem dX10_groups_122 : decode cX10_groups 122 = .ok (.iadd, 1) := by decide +kernel
theorem dX10_groups_123 : decode cX10_groups 123 = .ok (.iconst 1, 1) := by decide +kernel
theorem dX10_groups_124 : decode cX10_groups 124 = .ok (.if_icmp .ne 7, 3) := by decide +kernel
theorem dX10_groups_127 : decode cX10_groups 127 = .ok (.iconst 1, 1) := by decide +kernel
theorem dX10_groups_128 : decode cX10_groups 128 = .ok (.goto 4, 3) := by decide +kernel
theorem dX10_groups_131 : decode cX10_groups 131 = .ok (.iconst 0, 1) := by decide +kernel
theorem dX10_groups_132 : decode cX10_groups 132 = .ok (.istore 7, 2) := by decide +kernel
theorem dX10_groups_134 : decode cX10_groups 134 = .ok (.aload_n 0, 1) := by decide +kernel
theorem dX10_groups_135 : decode cX10_groups 135 = .ok (.getfield 49, 3) := by decide +kernel
theorem dX10_groups_138 : decode cX10_groups 138 = .ok (.iload_n 3, 1) := by decide +kernel
theorem dX10_groups_139 : decode cX10_groups 139 = .ok (.iaload, 1) := by decide +kernel
theorem dX10_groups_140 : decode cX10_groups 140 = .ok (.sipush (-999), 3) := by decide +kernel
theorem dX10_groups_143 : decode cX10_groups 143 = .ok (.if_icmp .eq 25, 3) := by decide +kernel
theorem dX10_groups_146 : decode cX10_groups 146 = .ok (.aload_n 0, 1) := by decide +kernel
theorem dX10_groups_147 : decode cX10_groups 147 = .ok (.getfield 49, 3) := by decide +kernel
theorem dX10_groups_150 : decode cX10_groups 150 = .ok (.iload 4, 2) := by decide +kernel
theorem dX10_groups_152 : decode cX10_groups 152 = .ok (.iaload, 1) := by decide +kernel
theorem dX10_groups_153 : decode cX10_groups 153 = .ok (.sipush (-999), 3) := by decide +kernel
theorem dX10_groups_156 : decode cX10_groups 156 = .ok (.if_icmp .eq 12, 3) := by decide +kernel
theorem dX10_groups_159 : decode cX10_groups 159 = .ok (.iload 7, 2) := by decide +kernel
theorem dX10_groups_161 : decode cX10_groups 161 = .ok (.ifCond .eq 7, 3) := by decide +kernel
theorem dX10_groups_164 : decode cX10_groups 164 = .ok (.iconst 1, 1) := by decide +kernel
theorem dX10_groups_165 : decode cX10_groups 165 = .ok (.goto 4, 3) := by decide +kernel
theorem dX10_groups_168 : decode cX10_groups 168 = .ok (.iconst 0, 1) := by decide +kernel
theorem dX10_groups_169 : decode cX10_groups 169 = .ok (.istore 8, 2) := by decide +kernel
theorem dX10_groups_171 : decode cX10_groups 171 = .ok (.aload_n 0, 1) := by decide +kernel
theorem dX10_groups_172 : decode cX10_groups 172 = .ok (.getfield 49, 3) := by decide +kernel
theorem dX10_groups_175 : decode cX10_groups 175 = .ok (.iload_n 3, 1) := by decide +kernel
theorem dX10_groups_176 : decode cX10_groups 176 = .ok (.iload 8, 2) := by decide +kernel
theorem dX10_groups_178 : decode cX10_groups 178 = .ok (.ifCond .eq 29, 3) := by decide +kernel
theorem dX10_groups_181 : decode cX10_groups 181 = .ok (.aload_n 0, 1) := by decide +kernel
theorem dX10_groups_182 : decode cX10_groups 182 = .ok (.getfield 49, 3) := by decide +kernel
theorem dX10_groups_185 : decode cX10_groups 185 = .ok (.iload 4, 2) := by decide +kernel
theorem dX10_groups_187 : decode cX10_groups 187 = .ok (.iaload, 1) := by decide +kernel
theorem dX10_groups_188 : decode cX10_groups 188 = .ok (.aload_n 0, 1) := by decide +kernel
theorem dX10_groups_189 : decode cX10_groups 189 = .ok (.getfield 49, 3) := by decide +kernel
theorem dX10_groups_192 : decode cX10_groups 192 = .ok (.iload_n 3, 1) := by decide +kernel
theorem dX10_groups_193 : decode cX10_groups 193 = .ok (.iaload, 1) := by decide +kernel
theorem dX10_groups_194 : decode cX10_groups 194 = .ok (.if_icmp .ge 13, 3) := by decide +kernel
theorem dX10_groups_197 : decode cX10_groups 197 = .ok (.aload_n 0, 1) := by decide +kernel
theorem dX10_groups_198 : decode cX10_groups 198 = .ok (.getfield 49, 3) := by decide +kernel
theorem dX10_groups_201 : decode cX10_groups 201 = .ok (.iload 4, 2) := by decide +kernel
theorem dX10_groups_203 : decode cX10_groups 203 = .ok (.iaload, 1) := by decide +kernel
theorem dX10_groups_204 : decode cX10_groups 204 = .ok (.goto 9, 3) := by decide +kernel
theorem dX10_groups_207 : decode cX10_groups 207 = .ok (.aload_n 0, 1) := by decide +kernel
theorem dX10_groups_208 : decode cX10_groups 208 = .ok (.getfield 49, 3) := by decide +kernel
theorem dX10_groups_211 : decode cX10_groups 211 = .ok (.iload_n 3, 1) := by decide +kernel
theorem dX10_groups_212 : decode cX10_groups 212 = .ok (.iaload, 1) := by decide +kernel
theorem dX10_groups_213 : decode cX10_groups 213 = .ok (.iastore, 1) := by decide +kernel
theorem dX10_groups_214 : decode cX10_groups 214 = .ok (.iinc 4 1, 3) := by decide +kernel
theorem dX10_groups_217 : decode cX10_groups 217 = .ok (.goto (-156), 3) := by decide +kernel
theorem dX10_groups_220 : decode cX10_groups 220 = .ok (.iinc 3 1, 3) := by decide +kernel
theorem dX10_groups_223 : decode cX10_groups 223 = .ok (.goto (-171), 3) := by decide +kernel
theorem dX10_groups_226 : decode cX10_groups 226 = .ok (.iinc 2 1, 3) := by decide +kernel
theorem dX10_groups_229 : decode cX10_groups 229 = .ok (.goto (-185), 3) := by decide +kernel
theorem dX10_groups_232 : decode cX10_groups 232 = .ok (.iconst 0, 1) := by decide +kernel
theorem dX10_groups_233 : decode cX10_groups 233 = .ok (.istore_n 2, 1) := by decide +kernel
theorem dX10_groups_234 : decode cX10_groups 234 = .ok (.iconst 0, 1) := by decide +kernel
theorem dX10_groups_235 : decode cX10_groups 235 = .ok (.istore_n 3, 1) := by decide +kernel
theorem dX10_groups_236 : decode cX10_groups 236 = .ok (.iload_n 3, 1) := by decide +kernel
theorem dX10_groups_237 : decode cX10_groups 237 = .ok (.bipush 9, 2) := by decide +kernel
theorem dX10_groups_239 : decode cX10_groups 239 = .ok (.if_icmp .ge 74, 3) := by decide +kernel
theorem dX10_groups_242 : decode cX10_groups 242 = .ok (.iload_n 1, 1) := by decide +kernel
theorem dX10_groups_243 : decode cX10_groups 243 = .ok (.istore 4, 2) := by decide +kernel
theorem dX10_groups_245 : decode cX10_groups 245 = .ok (.iconst 1, 1) := by decide +kernel
theorem dX10_groups_246 : decode cX10_groups 246 = .ok (.istore 5, 2) := by decide +kernel
theorem dX10_groups_248 : decode cX10_groups 248 = .ok (.iload 5, 2) := by decide +kernel
theorem dX10_groups_250 : decode cX10_groups 250 = .ok (.bipush 9, 2) := by decide +kernel
theorem dX10_groups_252 : decode cX10_groups 252 = .ok (.if_icmp .ge 32, 3) := by decide +kernel
theorem dX10_groups_255 : decode cX10_groups 255 = .ok (.iload 4, 2) := by decide +kernel
theorem dX10_groups_257 : decode cX10_groups 257 = .ok (.ifCond .ne 14, 3) := by decide +kernel
theorem dX10_groups_260 : decode cX10_groups 260 = .ok (.aload_n 0, 1) := by decide +kernel
theorem dX10_groups_261 : decode cX10_groups 261 = .ok (.getfield 49, 3) := by decide +kernel
theorem dX10_groups_264 : decode cX10_groups 264 = .ok (.iload 5, 2) := by decide +kernel
theorem dX10_groups_266 : decode cX10_groups 266 = .ok (.iaload, 1) := by decide +kernel
theorem dX10_groups_267 : decode cX10_groups 267 = .ok (.iload_n 3, 1) := by decide +kernel
theorem dX10_groups_268 : decode cX10_groups 268 = .ok (.if_icmp .ne 7, 3) := by decide +kernel
theorem dX10_groups_271 : decode cX10_groups 271 = .ok (.iconst 1, 1) := by decide +kernel
theorem dX10_groups_272 : decode cX10_groups 272 = .ok (.goto 4, 3) := by decide +kernel
theorem dX10_groups_275 : decode cX10_groups 275 = .ok (.iconst 0, 1) := by decide +kernel
theorem dX10_groups_276 : decode cX10_groups 276 = .ok (.istore 4, 2) := by decide +kernel
theorem dX10_groups_278 : decode cX10_groups 278 = .ok (.iinc 5 2, 3) := by decide +kernel
theorem dX10_groups_281 : decode cX10_groups 281 = .ok (.goto (-33), 3) := by decide +kernel
theorem dX10_groups_284 : decode cX10_groups 284 = .ok (.iload_n 2, 1) := by decide +kernel
theorem dX10_groups_285 : decode cX10_groups 285 = .ok (.aload_n 0, 1) := by decide +kernel
theorem dX10_groups_286 : decode cX10_groups 286 = .ok (.getfield 49, 3) := by decide +kernel
theorem dX10_groups_289 : decode cX10_groups 289 = .ok (.iload_n 3, 1) := by decide +kernel
theorem dX10_groups_290 : decode cX10_groups 290 = .ok (.iaload, 1) := by decide +kernel
theorem dX10_groups_291 : decode cX10_groups 291 = .ok (.iload_n 3, 1) := by decide +kernel
theorem dX10_groups_292 : decode cX10_groups 292 = .ok (.if_icmp .ne 12, 3) := by decide +kernel
theorem dX10_groups_295 : decode cX10_groups 295 = .ok (.iload 4, 2) := by decide +kernel
theorem dX10_groups_297 : decode cX10_groups 297 = .ok (.ifCond .eq 7, 3) := by decide +kernel
theorem dX10_groups_300 : decode cX10_groups 300 = .ok (.iconst 1, 1) := by decide +kernel
theorem dX10_groups_301 : decode cX10_groups 301 = .ok (.goto 4, 3) := by decide +kernel
theorem dX10_groups_304 : decode cX10_groups 304 = .ok (.iconst 0, 1) := by decide +kernel
theorem dX10_groups_305 : decode cX10_groups 305 = .ok (.iadd, 1) := by decide +kernel
theorem dX10_groups_306 : decode cX10_groups 306 = .ok (.istore_n 2, 1) := by decide +kernel
theorem dX10_groups_307 : decode cX10_groups 307 = .ok (.iinc 3 1, 3) := by decide +kernel
theorem dX10_groups_310 : decode cX10_groups 310 = .ok (.goto (-74), 3) := by decide +kernel
theorem dX10_groups_313 : decode cX10_groups 313 = .ok (.iload_n 2, 1) := by decide +kernel
theorem dX10_groups_314 : decode cX10_groups 314 = .ok (.ireturn, 1) := by decide +kernel
set_option maxRecDepth 20000 in
theorem ggX10_lookAbout_X10_isOf : GoodIn wsX10_lookAbout wsX10_isOf := goodIn_r _ [7, 8, 2, 9, 10, 11, 6, 12, 13, 14, 15, 16, 17, 18, 19, 20, 21, 22, 23, 24, 25, 26, 27, 28, 29, 30, 31, 32, 33, 34] rfl (by decide +kernel)
set_option maxRecDepth 20000 in
theorem gX10_lookAbout_X10_isOf : GoodIn wsX10_lookAbout (wsV RX10 148 RX10 yX10_isOf wsX10_isOf) := goodIn_app (goodIn_of _ (by decide +kernel)) ggX10_lookAbout_X10_isOf
theorem dX10_lookAbout_0 : decode cX10_lookAbout 0 = .ok (.iconst 0, 1) := by decide +kernel
theorem dX10_lookAbout_1 : decode cX10_lookAbout 1 = .ok (.istore_n 2, 1) := by decide +kernel
theorem dX10_lookAbout_2 : decode cX10_lookAbout 2 = .ok (.iconst 0, 1) := by decide +kernel
theorem dX10_lookAbout_3 : decode cX10_lookAbout 3 = .ok (.istore_n 3, 1) := by decide +kernel
theorem dX10_lookAbout_4 : decode cX10_lookAbout 4 = .ok (.iload_n 3, 1) := by decide +kernel
theorem dX10_lookAbout_5 : decode cX10_lookAbout 5 = .ok (.bipush 9, 2) := by decide +kernel
theorem dX10_lookAbout_7 : decode cX10_lookAbout 7 = .ok (.if_icmp .ge 65, 3) := by decide +kernel
theorem dX10_lookAbout_10 : decode cX10_lookAbout 10 = .ok (.aload_n 0, 1) := by decide +kernel
theorem dX10_lookAbout_11 : decode cX10_lookAbout 11 = .ok (.getfield 46, 3) := by decide +kernel
theorem dX10_lookAbout_14 : decode cX10_lookAbout 14 = .ok (.iload_n 3, 1) := by decide +kernel
theorem dX10_lookAbout_15 : decode cX10_lookAbout 15 = .ok (.aload_n 0, 1) := by decide +kernel
theorem dX10_lookAbout_16 : decode cX10_lookAbout 16 = .ok (.iload_n 1, 1) := by decide +kernel
theorem dX10_lookAbout_17 : decode cX10_lookAbout 17 = .ok (.aload_n 0, 1) := by decide +kernel
theorem dX10_lookAbout_18 : decode cX10_lookAbout 18 = .ok (.getfield 20, 3) := by decide +kernel
theorem dX10_lookAbout_21 : decode cX10_lookAbout 21 = .ok (.irem, 1) := by decide +kernel
theorem dX10_lookAbout_22 : decode cX10_lookAbout 22 = .ok (.iload_n 3, 1) := by decide +kernel
theorem dX10_lookAbout_23 : decode cX10_lookAbout 23 = .ok (.iconst 3, 1) := by decide +kernel
theorem dX10_lookAbout_24 : decode cX10_lookAbout 24 = .ok (.irem, 1) := by decide +kernel
theorem dX10_lookAbout_25 : decode cX10_lookAbout 25 = .ok (.iadd, 1) := by decide +kernel
theorem dX10_lookAbout_26 : decode cX10_lookAbout 26 = .ok (.iconst 1, 1) := by decide +kernel
theorem dX10_lookAbout_27 : decode cX10_lookAbout 27 = .ok (.isub, 1) := by decide +kernel
theorem dX10_lookAbout_28 : decode cX10_lookAbout 28 = .ok (.iload_n 1, 1) := by decide +kernel
theorem dX10_lookAbout_29 : decode cX10_lookAbout 29 = .ok (.aload_n 0, 1) := by decide +kernel
theorem dX10_lookAbout_30 : decode cX10_lookAbout 30 = .ok (.getfield 20, 3) := by decide +kernel
theorem dX10_lookAbout_33 : decode cX10_lookAbout 33 = .ok (.idiv, 1) := by decide +kernel
theorem dX10_lookAbout_34 : decode cX10_lookAbout 34 = .ok (.iload_n 3, 1) := by decide +kernel
theorem dX10_lookAbout_35 : decode cX10_lookAbout 35 = .ok (.iconst 3, 1) := by decide +kernel
theorem dX10_lookAbout_36 : decode cX10_lookAbout 36 = .ok (.idiv, 1) := by decide +kernel
theorem dX10_lookAbout_37 : decode cX10_lookAbout 37 = .ok (.iadd, 1) := by decide +kernel
theorem dX10_lookAbout_38 : decode cX10_lookAbout 38 = .ok (.iconst 1, 1) := by decide +kernel
theorem dX10_lookAbout_39 : decode cX10_lookAbout 39 = .ok (.isub, 1) := by decide +kernel
theorem dX10_lookAbout_40 : decode cX10_lookAbout 40 = .ok (.invokevirtual 148, 3) := by decide +kernel
theorem dX10_lookAbout_43 : decode cX10_lookAbout 43 = .ok (.bastore, 1) := by decide +kernel
theorem dX10_lookAbout_44 : decode cX10_lookAbout 44 = .ok (.iload_n 2, 1) := by decide +kernel
theorem dX10_lookAbout_45 : decode cX10_lookAbout 45 = .ok (.iload_n 3, 1) := by decide +kernel
theorem dX10_lookAbout_46 : decode cX10_lookAbout 46 = .ok (.iconst 4, 1) := by decide +kernel
theorem dX10_lookAbout_47 : decode cX10_lookAbout 47 = .ok (.if_icmp .eq 16, 3) := by decide +kernel
theorem dX10_lookAbout_50 : decode cX10_lookAbout 50 = .ok (.aload_n 0, 1) := by decide +kernel
theorem dX10_lookAbout_51 : decode cX10_lookAbout 51 = .ok (.getfield 46, 3) := by decide +kernel
theorem dX10_lookAbout_54 : decode cX10_lookAbout 54 = .ok (.iload_n 3, 1) := by decide +kernel
theorem dX10_lookAbout_55 : decode cX10_lookAbout 55 = .ok (.baload, 1) := by decide +kernel
theorem dX10_lookAbout_56 : decode cX10_lookAbout 56 = .ok (.ifCond .eq 7, 3) := by decide +kernel
theorem dX10_lookAbout_59 : decode cX10_lookAbout 59 = .ok (.iconst 1, 1) := by decide +kernel
theorem dX10_lookAbout_60 : decode cX10_lookAbout 60 = .ok (.goto 4, 3) := by decide +kernel
theorem dX10_lookAbout_63 : decode cX10_lookAbout 63 = .ok (.iconst 0, 1) := by decide +kernel
theorem dX10_lookAbout_64 : decode cX10_lookAbout 64 = .ok (.iadd, 1) := by decide +kernel
theorem dX10_lookAbout_65 : decode cX10_lookAbout 65 = .ok (.istore_n 2, 1) := by decide +kernel
theorem dX10_lookAbout_66 : decode cX10_lookAbout 66 = .ok (.iinc 3 1, 3) := by decide +kernel
theorem dX10_lookAbout_69 : decode cX10_lookAbout 69 = .ok (.goto (-65), 3) := by decide +kernel
theorem dX10_lookAbout_72 : decode cX10_lookAbout 72 = .ok (.iload_n 2, 1) := by decide +kernel
theorem dX10_lookAbout_73 : decode cX10_lookAbout 73 = .ok (.ireturn, 1) := by decide +kernel
set_option maxRecDepth 20000 in
theorem ggX10_isLoose_X10_lookAbout : GoodIn wsX10_isLoose wsX10_lookAbout := goodIn_r _ [6, 7, 8, 9, 10, 11, 5, 12, 1, 13, 14, 15, 16, 17, 18, 19, 20, 29, 30, 31, 32, 33, 34, 35, 36, 37, 38, 39, 40, 41, 42, 43, 44, 45, 46] rfl (by decide +kernel)
set_option maxRecDepth 20000 in
theorem gX10_isLoose_X10_lookAbout : GoodIn wsX10_isLoose (wsV RX10 204 RX10 yX10_lookAbout wsX10_lookAbout) := goodIn_app (goodIn_of _ (by decide +kernel)) ggX10_isLoose_X10_lookAbout
set_option maxRecDepth 20000 in
theorem ggX10_isLoose_X10_groups : GoodIn wsX10_isLoose wsX10_groups := goodIn_r _ [24, 25, 7, 26, 27, 5, 28, 29, 30, 31, 32, 33, 34, 35, 36, 37, 38, 39, 40, 41, 42, 43, 44, 45, 46] rfl (by decide +kernel)
set_option maxRecDepth 20000 in
theorem gX10_isLoose_X10_groups : GoodIn wsX10_isLoose (wsV RX10 207 RX10 yX10_groups wsX10_groups) := goodIn_app (goodIn_of _ (by decide +kernel)) ggX10_isLoose_X10_groups
theorem dX10_isLoose_0 : decode cX10_isLoose 0 = .ok (.aload_n 0, 1) := by decide +kernel
theorem dX10_isLoose_1 : decode cX10_isLoose 1 = .ok (.iload_n 1, 1) := by decide +kernel
theorem dX10_isLoose_2 : decode cX10_isLoose 2 = .ok (.invokevirtual 204, 3) := by decide +kernel
theorem dX10_isLoose_5 : decode cX10_isLoose 5 = .ok (.pop, 1) := by decide +kernel
theorem dX10_isLoose_6 : decode cX10_isLoose 6 = .ok (.aload_n 0, 1) := by decide +kernel
theorem dX10_isLoose_7 : decode cX10_isLoose 7 = .ok (.getfield 27, 3) := by decide +kernel
theorem dX10_isLoose_10 : decode cX10_isLoose 10 = .ok (.iload_n 1, 1) := by decide +kernel
theorem dX10_isLoose_11 : decode cX10_isLoose 11 = .ok (.baload, 1) := by decide +kernel
theorem dX10_isLoose_12 : decode cX10_isLoose 12 = .ok (.ifCond .eq 25, 3) := by decide +kernel
theorem dX10_isLoose_15 : decode cX10_isLoose 15 = .ok (.aload_n 0, 1) := by decide +kernel
theorem dX10_isLoose_16 : decode cX10_isLoose 16 = .ok (.iconst 1, 1) := by decide +kernel
theorem dX10_isLoose_17 : decode cX10_isLoose 17 = .ok (.invokevirtual 207, 3) := by decide +kernel
theorem dX10_isLoose_20 : decode cX10_isLoose 20 = .ok (.iconst 1, 1) := by decide +kernel
theorem dX10_isLoose_21 : decode cX10_isLoose 21 = .ok (.if_icmp .ne 16, 3) := by decide +kernel
theorem dX10_isLoose_24 : decode cX10_isLoose 24 = .ok (.aload_n 0, 1) := by decide +kernel
theorem dX10_isLoose_25 : decode cX10_isLoose 25 = .ok (.iconst 0, 1) := by decide +kernel
theorem dX10_isLoose_26 : decode cX10_isLoose 26 = .ok (.invokevirtual 207, 3) := by decide +kernel
theorem dX10_isLoose_29 : decode cX10_isLoose 29 = .ok (.iconst 1, 1) := by decide +kernel
theorem dX10_isLoose_30 : decode cX10_isLoose 30 = .ok (.if_icmp .ne 7, 3) := by decide +kernel
theorem dX10_isLoose_33 : decode cX10_isLoose 33 = .ok (.iconst 1, 1) := by decide +kernel
theorem dX10_isLoose_34 : decode cX10_isLoose 34 = .ok (.goto 4, 3) := by decide +kernel
theorem dX10_isLoose_37 : decode cX10_isLoose 37 = .ok (.iconst 0, 1) := by decide +kernel
theorem dX10_isLoose_38 : decode cX10_isLoose 38 = .ok (.ireturn, 1) := by decide +kernel
set_option maxRecDepth 20000 in
theorem ggX10_loose_X10_noField : GoodIn wsX10_loose wsX10_noField := goodIn_r _ [6, 7, 8, 9, 5, 10, 11, 12, 13, 14, 15, 42, 43, 44, 45, 46, 47, 48, 49, 50, 51, 52, 53, 54, 55, 56, 57, 58, 59] rfl (by decide +kernel)
set_option maxRecDepth 20000 in
theorem gX10_loose_X10_noField : GoodIn wsX10_loose (wsV RX10 126 RX10 yX10_noField wsX10_noField) := goodIn_app (goodIn_of _ (by decide +kernel)) ggX10_loose_X10_noField
set_option maxRecDepth 20000 in
theorem ggX10_loose_X10_isLoose : GoodIn wsX10_loose wsX10_isLoose := goodIn_r _ [19, 20, 21, 22, 23, 5, 24, 25, 11, 26, 27, 28, 29, 30, 31, 32, 33, 12, 13, 14, 15, 34, 35, 36, 37, 38, 39, 40, 41, 42, 43, 44, 45, 46, 47, 48, 49, 50, 51, 52, 53, 54, 55, 56, 57, 58, 59] rfl (by decide +kernel)
set_option maxRecDepth 20000 in
theorem gX10_loose_X10_isLoose : GoodIn wsX10_loose (wsV RX10 211 RX10 yX10_isLoose wsX10_isLoose) := goodIn_app (goodIn_of _ (by decide +kernel)) ggX10_loose_X10_isLoose
theorem dX10_loose_0 : decode cX10_loose 0 = .ok (.aload_n 0, 1) := by decide +kernel
theorem dX10_loose_1 : decode cX10_loose 1 = .ok (.iconst 0, 1) := by decide +kernel
theorem dX10_loose_2 : decode cX10_loose 2 = .ok (.putfield 52, 3) := by decide +kernel
theorem dX10_loose_5 : decode cX10_loose 5 = .ok (.aload_n 0, 1) := by decide +kernel
theorem dX10_loose_6 : decode cX10_loose 6 = .ok (.iload_n 1, 1) := by decide +kernel
theorem dX10_loose_7 : decode cX10_loose 7 = .ok (.invokevirtual 126, 3) := by decide +kernel
theorem dX10_loose_10 : decode cX10_loose 10 = .ok (.ifCond .eq 9, 3) := by decide +kernel
theorem dX10_loose_13 : decode cX10_loose 13 = .ok (.sipush (-1001), 3) := by decide +kernel
theorem dX10_loose_16 : decode cX10_loose 16 = .ok (.goto 16, 3) := by decide +kernel
theorem dX10_loose_19 : decode cX10_loose 19 = .ok (.aload_n 0, 1) := by decide +kernel
theorem dX10_loose_20 : decode cX10_loose 20 = .ok (.iload_n 1, 1) := by decide +kernel
theorem dX10_loose_21 : decode cX10_loose 21 = .ok (.invokevirtual 211, 3) := by decide +kernel
theorem dX10_loose_24 : decode cX10_loose 24 = .ok (.ifCond .eq 7, 3) := by decide +kernel
theorem dX10_loose_27 : decode cX10_loose 27 = .ok (.iconst 1, 1) := by decide +kernel
theorem dX10_loose_28 : decode cX10_loose 28 = .ok (.goto 4, 3) := by decide +kernel
theorem dX10_loose_31 : decode cX10_loose 31 = .ok (.iconst 0, 1) := by decide +kernel
theorem dX10_loose_32 : decode cX10_loose 32 = .ok (.ireturn, 1) := by decide +kernel
set_option maxRecDepth 20000 in
theorem ggX10_thinOnce_X10_fields : GoodIn wsX10_thinOnce wsX10_fields := goodIn_r _ [8, 1, 9, 38, 39, 40, 41, 42, 43, 44, 45, 46, 47, 48, 49, 50, 51, 52, 53, 54, 55] rfl (by decide +kernel)
set_option maxRecDepth 20000 in
theorem gX10_thinOnce_X10_fields : GoodIn wsX10_thinOnce (wsV RX10 117 RX10 yX10_fields wsX10_fields) := goodIn_app (goodIn_of _ (by decide +kernel)) ggX10_thinOnce_X10_fields
set_option maxRecDepth 20000 in
theorem ggX10_thinOnce_X10_isOf : GoodIn wsX10_thinOnce wsX10_isOf := goodIn_r _ [13, 3, 1, 14, 15, 16, 7, 17, 9, 18, 19, 20, 38, 39, 40, 41, 42, 43, 44, 45, 46, 47, 48, 49, 50, 51, 52, 53, 54, 55] rfl (by decide +kernel)
set_option maxRecDepth 20000 in
theorem gX10_thinOnce_X10_isOf : GoodIn wsX10_thinOnce (wsV RX10 148 RX10 yX10_isOf wsX10_isOf) := goodIn_app (goodIn_of _ (by decide +kernel)) ggX10_thinOnce_X10_isOf
set_option maxRecDepth 20000 in
theorem ggX10_thinOnce_X10_isLoose : GoodIn wsX10_thinOnce wsX10_isLoose := goodIn_r _ [24, 3, 25, 26, 27, 7, 28, 29, 1, 10, 11, 12, 13, 14, 15, 16, 17, 9, 18, 19, 20, 30, 31, 32, 33, 34, 35, 36, 37, 38, 39, 40, 41, 42, 43, 44, 45, 46, 47, 48, 49, 50, 51, 52, 53, 54, 55] rfl (by decide +kernel)
set_option maxRecDepth 20000 in
theorem gX10_thinOnce_X10_isLoose : GoodIn wsX10_thinOnce (wsV RX10 211 RX10 yX10_isLoose wsX10_isLoose) := goodIn_app (goodIn_of _ (by decide +kernel)) ggX10_thinOnce_X10_isLoose
set_option maxRecDepth 20000 in
theorem ggX10_thinOnce_X10_lookAbout : GoodIn wsX10_thinOnce wsX10_lookAbout := goodIn_r _ [28, 29, 1, 10, 11, 12, 7, 13, 3, 14, 15, 16, 17, 9, 18, 19, 20, 38, 39, 40, 41, 42, 43, 44, 45, 46, 47, 48, 49, 50, 51, 52, 53, 54, 55] rfl (by decide +kernel)
set_option maxRecDepth 20000 in
theorem gX10_thinOnce_X10_lookAbout : GoodIn wsX10_thinOnce (wsV RX10 204 RX10 yX10_lookAbout wsX10_lookAbout) := goodIn_app (goodIn_of _ (by decide +kernel)) ggX10_thinOnce_X10_lookAbout
theorem dX10_thinOnce_0 : decode cX10_thinOnce 0 = .ok (.iconst 0, 1) := by decide +kernel
theorem dX10_thinOnce_1 : decode cX10_thinOnce 1 = .ok (.istore_n 1, 1) := by decide +kernel
theorem dX10_thinOnce_2 : decode cX10_thinOnce 2 = .ok (.iload_n 1, 1) := by decide +kernel
theorem dX10_thinOnce_3 : decode cX10_thinOnce 3 = .ok (.aload_n 0, 1) := by decide +kernel
theorem dX10_thinOnce_4 : decode cX10_thinOnce 4 = .ok (.invokevirtual 117, 3) := by decide +kernel
theorem dX10_thinOnce_7 : decode cX10_thinOnce 7 = .ok (.if_icmp .ge 87, 3) := by decide +kernel
theorem dX10_thinOnce_10 : decode cX10_thinOnce 10 = .ok (.iload_n 1, 1) := by decide +kernel
theorem dX10_thinOnce_11 : decode cX10_thinOnce 11 = .ok (.aload_n 0, 1) := by decide +kernel
theorem dX10_thinOnce_12 : decode cX10_thinOnce 12 = .ok (.getfield 20, 3) := by decide +kernel
theorem dX10_thinOnce_15 : decode cX10_thinOnce 15 = .ok (.irem, 1) := by decide +kernel
theorem dX10_thinOnce_16 : decode cX10_thinOnce 16 = .ok (.istore_n 2, 1) := by decide +kernel
theorem dX10_thinOnce_17 : decode cX10_thinOnce 17 = .ok (.iload_n 1, 1) := by decide +kernel
theorem dX10_thinOnce_18 : decode cX10_thinOnce 18 = .ok (.aload_n 0, 1) := by decide +kernel
theorem dX10_thinOnce_19 : decode cX10_thinOnce 19 = .ok (.getfield 20, 3) := by decide +kernel
theorem dX10_thinOnce_22 : decode cX10_thinOnce 22 = .ok (.idiv, 1) := by decide +kernel
theorem dX10_thinOnce_23 : decode cX10_thinOnce 23 = .ok (.istore_n 3, 1) := by decide +kernel
theorem dX10_thinOnce_24 : decode cX10_thinOnce 24 = .ok (.aload_n 0, 1) := by decide +kernel
theorem dX10_thinOnce_25 : decode cX10_thinOnce 25 = .ok (.getfield 40, 3) := by decide +kernel
theorem dX10_thinOnce_28 : decode cX10_thinOnce 28 = .ok (.iload_n 1, 1) := by decide +kernel
theorem dX10_thinOnce_29 : decode cX10_thinOnce 29 = .ok (.aload_n 0, 1) := by decide +kernel
theorem dX10_thinOnce_30 : decode cX10_thinOnce 30 = .ok (.getfield 27, 3) := by decide +kernel
theorem dX10_thinOnce_33 : decode cX10_thinOnce 33 = .ok (.iload_n 1, 1) := by decide +kernel
theorem dX10_thinOnce_34 : decode cX10_thinOnce 34 = .ok (.baload, 1) := by decide +kernel
theorem dX10_thinOnce_35 : decode cX10_thinOnce 35 = .ok (.ifCond .eq 51, 3) := by decide +kernel
theorem dX10_thinOnce_38 : decode cX10_thinOnce 38 = .ok (.aload_n 0, 1) := by decide +kernel
theorem dX10_thinOnce_39 : decode cX10_thinOnce 39 = .ok (.iload_n 2, 1) := by decide +kernel
theorem dX10_thinOnce_40 : decode cX10_thinOnce 40 = .ok (.iconst 1, 1) := by decide +kernel
theorem dX10_thinOnce_41 : decode cX10_thinOnce 41 = .ok (.isub, 1) := by decide +kernel
theorem dX10_thinOnce_42 : decode cX10_thinOnce 42 = .ok (.iload_n 3, 1) := by decide +kernel
theorem dX10_thinOnce_43 : decode cX10_thinOnce 43 = .ok (.invokevirtual 148, 3) := by decide +kernel
theorem dX10_thinOnce_46 : decode cX10_thinOnce 46 = .ok (.ifCond .eq 36, 3) := by decide +kernel
theorem dX10_thinOnce_49 : decode cX10_thinOnce 49 = .ok (.aload_n 0, 1) := by decide +kernel
theorem dX10_thinOnce_50 : decode cX10_thinOnce 50 = .ok (.iload_n 2, 1) := by decide +kernel
theorem dX10_thinOnce_51 : decode cX10_thinOnce 51 = .ok (.iconst 1, 1) := by decide +kernel
theorem dX10_thinOnce_52 : decode cX10_thinOnce 52 = .ok (.iadd, 1) := by decide +kernel
theorem dX10_thinOnce_53 : decode cX10_thinOnce 53 = .ok (.iload_n 3, 1) := by decide +kernel
theorem dX10_thinOnce_54 : decode cX10_thinOnce 54 = .ok (.invokevirtual 148, 3) := by decide +kernel
theorem dX10_thinOnce_57 : decode cX10_thinOnce 57 = .ok (.ifCond .eq 25, 3) := by decide +kernel
theorem dX10_thinOnce_60 : decode cX10_thinOnce 60 = .ok (.aload_n 0, 1) := by decide +kernel
theorem dX10_thinOnce_61 : decode cX10_thinOnce 61 = .ok (.iload_n 2, 1) := by decide +kernel
theorem dX10_thinOnce_62 : decode cX10_thinOnce 62 = .ok (.iload_n 3, 1) := by decide +kernel
theorem dX10_thinOnce_63 : decode cX10_thinOnce 63 = .ok (.iconst 1, 1) := by decide +kernel
theorem dX10_thinOnce_64 : decode cX10_thinOnce 64 = .ok (.isub, 1) := by decide +kernel
theorem dX10_thinOnce_65 : decode cX10_thinOnce 65 = .ok (.invokevirtual 148, 3) := by decide +kernel
theorem dX10_thinOnce_68 : decode cX10_thinOnce 68 = .ok (.ifCond .eq 14, 3) := by decide +kernel
theorem dX10_thinOnce_71 : decode cX10_thinOnce 71 = .ok (.aload_n 0, 1) := by decide +kernel
theorem dX10_thinOnce_72 : decode cX10_thinOnce 72 = .ok (.iload_n 2, 1) := by decide +kernel
theorem dX10_thinOnce_73 : decode cX10_thinOnce 73 = .ok (.iload_n 3, 1) := by decide +kernel
theorem dX10_thinOnce_74 : decode cX10_thinOnce 74 = .ok (.iconst 1, 1) := by decide +kernel
theorem dX10_thinOnce_75 : decode cX10_thinOnce 75 = .ok (.iadd, 1) := by decide +kernel
theorem dX10_thinOnce_76 : decode cX10_thinOnce 76 = .ok (.invokevirtual 148, 3) := by decide +kernel
theorem dX10_thinOnce_79 : decode cX10_thinOnce 79 = .ok (.ifCond .ne 7, 3) := by decide +kernel
theorem dX10_thinOnce_82 : decode cX10_thinOnce 82 = .ok (.iconst 1, 1) := by decide +kernel
theorem dX10_thinOnce_83 : decode cX10_thinOnce 83 = .ok (.goto 4, 3) := by decide +kernel
theorem dX10_thinOnce_86 : decode cX10_thinOnce 86 = .ok (.iconst 0, 1) := by decide +kernel
theorem dX10_thinOnce_87 : decode cX10_thinOnce 87 = .ok (.bastore, 1) := by decide +kernel
theorem dX10_thinOnce_88 : decode cX10_thinOnce 88 = .ok (.iinc 1 1, 3) := by decide +kernel
theorem dX10_thinOnce_91 : decode cX10_thinOnce 91 = .ok (.goto (-89), 3) := by decide +kernel
theorem dX10_thinOnce_94 : decode cX10_thinOnce 94 = .ok (.iconst 0, 1) := by decide +kernel
theorem dX10_thinOnce_95 : decode cX10_thinOnce 95 = .ok (.istore_n 1, 1) := by decide +kernel
theorem dX10_thinOnce_96 : decode cX10_thinOnce 96 = .ok (.iconst 0, 1) := by decide +kernel
theorem dX10_thinOnce_97 : decode cX10_thinOnce 97 = .ok (.istore_n 2, 1) := by decide +kernel
theorem dX10_thinOnce_98 : decode cX10_thinOnce 98 = .ok (.iload_n 2, 1) := by decide +kernel
theorem dX10_thinOnce_99 : decode cX10_thinOnce 99 = .ok (.aload_n 0, 1) := by decide +kernel
theorem dX10_thinOnce_100 : decode cX10_thinOnce 100 = .ok (.invokevirtual 117, 3) := by decide +kernel
theorem dX10_thinOnce_103 : decode cX10_thinOnce 103 = .ok (.if_icmp .ge 45, 3) := by decide +kernel
theorem dX10_thinOnce_106 : decode cX10_thinOnce 106 = .ok (.aload_n 0, 1) := by decide +kernel
theorem dX10_thinOnce_107 : decode cX10_thinOnce 107 = .ok (.getfield 40, 3) := by decide +kernel
theorem dX10_thinOnce_110 : decode cX10_thinOnce 110 = .ok (.iload_n 2, 1) := by decide +kernel
theorem dX10_thinOnce_111 : decode cX10_thinOnce 111 = .ok (.baload, 1) := by decide +kernel
theorem dX10_thinOnce_112 : decode cX10_thinOnce 112 = .ok (.ifCond .eq 30, 3) := by decide +kernel
theorem dX10_thinOnce_115 : decode cX10_thinOnce 115 = .ok (.aload_n 0, 1) := by decide +kernel
theorem dX10_thinOnce_116 : decode cX10_thinOnce 116 = .ok (.iload_n 2, 1) := by decide +kernel
theorem dX10_thinOnce_117 : decode cX10_thinOnce 117 = .ok (.invokevirtual 211, 3) := by decide +kernel
theorem dX10_thinOnce_120 : decode cX10_thinOnce 120 = .ok (.ifCond .eq 22, 3) := by decide +kernel
theorem dX10_thinOnce_123 : decode cX10_thinOnce 123 = .ok (.aload_n 0, 1) := by decide +kernel
theorem dX10_thinOnce_124 : decode cX10_thinOnce 124 = .ok (.iload_n 2, 1) := by decide +kernel
theorem dX10_thinOnce_125 : decode cX10_thinOnce 125 = .ok (.invokevirtual 204, 3) := by decide +kernel
theorem dX10_thinOnce_128 : decode cX10_thinOnce 128 = .ok (.iconst 1, 1) := by decide +kernel
theorem dX10_thinOnce_129 : decode cX10_thinOnce 129 = .ok (.if_icmp .eq 13, 3) := by decide +kernel
theorem dX10_thinOnce_132 : decode cX10_thinOnce 132 = .ok (.aload_n 0, 1) := by decide +kernel
theorem dX10_thinOnce_133 : decode cX10_thinOnce 133 = .ok (.getfield 27, 3) := by decide +kernel
theorem dX10_thinOnce_136 : decode cX10_thinOnce 136 = .ok (.iload_n 2, 1) := by decide +kernel
theorem dX10_thinOnce_137 : decode cX10_thinOnce 137 = .ok (.iconst 0, 1) := by decide +kernel
theorem dX10_thinOnce_138 : decode cX10_thinOnce 138 = .ok (.bastore, 1) := by decide +kernel
theorem dX10_thinOnce_139 : decode cX10_thinOnce 139 = .ok (.iinc 1 1, 3) := by decide +kernel
theorem dX10_thinOnce_142 : decode cX10_thinOnce 142 = .ok (.iinc 2 1, 3) := by decide +kernel
theorem dX10_thinOnce_145 : decode cX10_thinOnce 145 = .ok (.goto (-47), 3) := by decide +kernel
theorem dX10_thinOnce_148 : decode cX10_thinOnce 148 = .ok (.iload_n 1, 1) := by decide +kernel
theorem dX10_thinOnce_149 : decode cX10_thinOnce 149 = .ok (.ireturn, 1) := by decide +kernel
set_option maxRecDepth 20000 in
theorem ggX10_thinning_X10_thinOnce : GoodIn wsX10_thinning wsX10_thinOnce := goodIn_r _ [6, 7, 8, 9, 10, 11, 12, 5, 13, 14, 15, 16, 17, 18, 19, 20, 21, 22, 23, 24, 25, 26, 27, 28, 29, 30, 31, 32, 33, 34, 35, 36, 37, 38, 39, 40, 41, 42, 43, 44, 45, 46, 47, 48, 49, 50, 51, 52, 53, 54, 55, 56, 57, 58, 59, 60] rfl (by decide +kernel)
set_option maxRecDepth 20000 in
theorem gX10_thinning_X10_thinOnce : GoodIn wsX10_thinning (wsV RX10 214 RX10 yX10_thinOnce wsX10_thinOnce) := goodIn_app (goodIn_of _ (by decide +kernel)) ggX10_thinning_X10_thinOnce
theorem dX10_thinning_0 : decode cX10_thinning 0 = .ok (.aload_n 0, 1) := by decide +kernel
theorem dX10_thinning_1 : decode cX10_thinning 1 = .ok (.iconst 0, 1) := by decide +kernel
theorem dX10_thinning_2 : decode cX10_thinning 2 = .ok (.putfield 52, 3) := by decide +kernel
theorem dX10_thinning_5 : decode cX10_thinning 5 = .ok (.aload_n 0, 1) := by decide +kernel
theorem dX10_thinning_6 : decode cX10_thinning 6 = .ok (.invokevirtual 214, 3) := by decide +kernel
theorem dX10_thinning_9 : decode cX10_thinning 9 = .ok (.ireturn, 1) := by decide +kernel
set_option maxRecDepth 20000 in
theorem ggX10_thin_X10_thinOnce : GoodIn wsX10_thin wsX10_thinOnce := goodIn_r _ [6, 7, 8, 9, 10, 11, 12, 5, 13, 14, 15, 16, 17, 18, 19, 20, 21, 22, 23, 24, 25, 26, 27, 28, 29, 30, 31, 32, 33, 34, 35, 36, 37, 38, 39, 40, 41, 42, 43, 44, 45, 46, 47, 48, 49, 50, 51, 52, 53, 54, 55, 56, 57, 58, 59, 60] rfl (by decide +kernel)
set_option maxRecDepth 20000 in
theorem gX10_thin_X10_thinOnce : GoodIn wsX10_thin (wsV RX10 214 RX10 yX10_thinOnce wsX10_thinOnce) := goodIn_app (goodIn_of _ (by decide +kernel)) ggX10_thin_X10_thinOnce
theorem dX10_thin_0 : decode cX10_thin 0 = .ok (.aload_n 0, 1) := by decide +kernel
theorem dX10_thin_1 : decode cX10_thin 1 = .ok (.iconst 0, 1) := by decide +kernel
theorem dX10_thin_2 : decode cX10_thin 2 = .ok (.putfield 52, 3) := by decide +kernel
theorem dX10_thin_5 : decode cX10_thin 5 = .ok (.iconst 0, 1) := by decide +kernel
theorem dX10_thin_6 : decode cX10_thin 6 = .ok (.istore_n 1, 1) := by decide +kernel
theorem dX10_thin_7 : decode cX10_thin 7 = .ok (.aload_n 0, 1) := by decide +kernel
theorem dX10_thin_8 : decode cX10_thin 8 = .ok (.invokevirtual 214, 3) := by decide +kernel
theorem dX10_thin_11 : decode cX10_thin 11 = .ok (.istore_n 2, 1) := by decide +kernel
theorem dX10_thin_12 : decode cX10_thin 12 = .ok (.iload_n 2, 1) := by decide +kernel
theorem dX10_thin_13 : decode cX10_thin 13 = .ok (.ifCond .le 15, 3) := by decide +kernel
theorem dX10_thin_16 : decode cX10_thin 16 = .ok (.iload_n 1, 1) := by decide +kernel
theorem dX10_thin_17 : decode cX10_thin 17 = .ok (.iload_n 2, 1) := by decide +kernel
theorem dX10_thin_18 : decode cX10_thin 18 = .ok (.iadd, 1) := by decide +kernel
theorem dX10_thin_19 : decode cX10_thin 19 = .ok (.istore_n 1, 1) := by decide +kernel
theorem dX10_thin_20 : decode cX10_thin 20 = .ok (.aload_n 0, 1) := by decide +kernel
theorem dX10_thin_21 : decode cX10_thin 21 = .ok (.invokevirtual 214, 3) := by decide +kernel
theorem dX10_thin_24 : decode cX10_thin 24 = .ok (.istore_n 2, 1) := by decide +kernel
theorem dX10_thin_25 : decode cX10_thin 25 = .ok (.goto (-13), 3) := by decide +kernel
theorem dX10_thin_28 : decode cX10_thin 28 = .ok (.iload_n 1, 1) := by decide +kernel
theorem dX10_thin_29 : decode cX10_thin 29 = .ok (.ireturn, 1) := by decide +kernel
set_option maxRecDepth 20000 in
theorem ggX10_count_X10_fields : GoodIn wsX10_count wsX10_fields := goodIn_r _ [11, 5, 6, 16, 17, 18, 19, 20, 21, 22, 23, 24, 25, 26, 27, 28, 29, 30, 31, 32, 33] rfl (by decide +kernel)
set_option maxRecDepth 20000 in
theorem gX10_count_X10_fields : GoodIn wsX10_count (wsV RX10 117 RX10 yX10_fields wsX10_fields) := goodIn_app (goodIn_of _ (by decide +kernel)) ggX10_count_X10_fields
set_option maxRecDepth 20000 in
theorem ggX10_count_X10_onEdge : GoodIn wsX10_count wsX10_onEdge := goodIn_r _ [15, 5, 6, 16, 17, 18, 19, 20, 21, 22, 23, 24, 25, 26, 27, 28, 29, 30, 31, 32, 33] rfl (by decide +kernel)
set_option maxRecDepth 20000 in
theorem gX10_count_X10_onEdge : GoodIn wsX10_count (wsV RX10 135 RX10 yX10_onEdge wsX10_onEdge) := goodIn_app (goodIn_of _ (by decide +kernel)) ggX10_count_X10_onEdge
theorem dX10_count_0 : decode cX10_count 0 = .ok (.aload_n 0, 1) := by decide +kernel
theorem dX10_count_1 : decode cX10_count 1 = .ok (.iconst 0, 1) := by decide +kernel
theorem dX10_count_2 : decode cX10_count 2 = .ok (.putfield 52, 3) := by decide +kernel
theorem dX10_count_5 : decode cX10_count 5 = .ok (.iconst 0, 1) := by decide +kernel
theorem dX10_count_6 : decode cX10_count 6 = .ok (.istore_n 2, 1) := by decide +kernel
theorem dX10_count_7 : decode cX10_count 7 = .ok (.iconst 0, 1) := by decide +kernel
theorem dX10_count_8 : decode cX10_count 8 = .ok (.istore_n 3, 1) := by decide +kernel
theorem dX10_count_9 : decode cX10_count 9 = .ok (.iconst 0, 1) := by decide +kernel
theorem dX10_count_10 : decode cX10_count 10 = .ok (.istore 4, 2) := by decide +kernel
theorem dX10_count_12 : decode cX10_count 12 = .ok (.iload 4, 2) := by decide +kernel
theorem dX10_count_14 : decode cX10_count 14 = .ok (.aload_n 0, 1) := by decide +kernel
theorem dX10_count_15 : decode cX10_count 15 = .ok (.getfield 68, 3) := by decide +kernel
theorem dX10_count_18 : decode cX10_count 18 = .ok (.if_icmp .ge 29, 3) := by decide +kernel
theorem dX10_count_21 : decode cX10_count 21 = .ok (.iload_n 2, 1) := by decide +kernel
theorem dX10_count_22 : decode cX10_count 22 = .ok (.aload_n 0, 1) := by decide +kernel
theorem dX10_count_23 : decode cX10_count 23 = .ok (.getfield 7, 3) := by decide +kernel
theorem dX10_count_26 : decode cX10_count 26 = .ok (.iload 4, 2) := by decide +kernel
theorem dX10_count_28 : decode cX10_count 28 = .ok (.iaload, 1) := by decide +kernel
theorem dX10_count_29 : decode cX10_count 29 = .ok (.iconst 2, 1) := by decide +kernel
theorem dX10_count_30 : decode cX10_count 30 = .ok (.irem, 1) := by decide +kernel
theorem dX10_count_31 : decode cX10_count 31 = .ok (.ifCond .ne 7, 3) := by decide +kernel
theorem dX10_count_34 : decode cX10_count 34 = .ok (.iconst 1, 1) := by decide +kernel
theorem dX10_count_35 : decode cX10_count 35 = .ok (.goto 4, 3) := by decide +kernel
theorem dX10_count_38 : decode cX10_count 38 = .ok (.iconst 0, 1) := by decide +kernel
theorem dX10_count_39 : decode cX10_count 39 = .ok (.iadd, 1) := by decide +kernel
theorem dX10_count_40 : decode cX10_count 40 = .ok (.istore_n 2, 1) := by decide +kernel
theorem dX10_count_41 : decode cX10_count 41 = .ok (.iinc 4 1, 3) := by decide +kernel
theorem dX10_count_44 : decode cX10_count 44 = .ok (.goto (-32), 3) := by decide +kernel
theorem dX10_count_47 : decode cX10_count 47 = .ok (.iconst 0, 1) := by decide +kernel
theorem dX10_count_48 : decode cX10_count 48 = .ok (.istore 4, 2) := by decide +kernel
theorem dX10_count_50 : decode cX10_count 50 = .ok (.iload 4, 2) := by decide +kernel
theorem dX10_count_52 : decode cX10_count 52 = .ok (.aload_n 0, 1) := by decide +kernel
theorem dX10_count_53 : decode cX10_count 53 = .ok (.invokevirtual 117, 3) := by decide +kernel
theorem dX10_count_56 : decode cX10_count 56 = .ok (.if_icmp .ge 36, 3) := by decide +kernel
theorem dX10_count_59 : decode cX10_count 59 = .ok (.iload_n 3, 1) := by decide +kernel
theorem dX10_count_60 : decode cX10_count 60 = .ok (.aload_n 0, 1) := by decide +kernel
theorem dX10_count_61 : decode cX10_count 61 = .ok (.getfield 27, 3) := by decide +kernel
theorem dX10_count_64 : decode cX10_count 64 = .ok (.iload 4, 2) := by decide +kernel
theorem dX10_count_66 : decode cX10_count 66 = .ok (.baload, 1) := by decide +kernel
theorem dX10_count_67 : decode cX10_count 67 = .ok (.ifCond .eq 16, 3) := by decide +kernel
theorem dX10_count_70 : decode cX10_count 70 = .ok (.aload_n 0, 1) := by decide +kernel
theorem dX10_count_71 : decode cX10_count 71 = .ok (.iload 4, 2) := by decide +kernel
theorem dX10_count_73 : decode cX10_count 73 = .ok (.invokevirtual 135, 3) := by decide +kernel
theorem dX10_count_76 : decode cX10_count 76 = .ok (.ifCond .eq 7, 3) := by decide +kernel
theorem dX10_count_79 : decode cX10_count 79 = .ok (.iconst 1, 1) := by decide +kernel
theorem dX10_count_80 : decode cX10_count 80 = .ok (.goto 4, 3) := by decide +kernel
theorem dX10_count_83 : decode cX10_count 83 = .ok (.iconst 0, 1) := by decide +kernel
theorem dX10_count_84 : decode cX10_count 84 = .ok (.iadd, 1) := by decide +kernel
theorem dX10_count_85 : decode cX10_count 85 = .ok (.istore_n 3, 1) := by decide +kernel
theorem dX10_count_86 : decode cX10_count 86 = .ok (.iinc 4 1, 3) := by decide +kernel
theorem dX10_count_89 : decode cX10_count 89 = .ok (.goto (-39), 3) := by decide +kernel
theorem dX10_count_92 : decode cX10_count 92 = .ok (.iload_n 1, 1) := by decide +kernel
theorem dX10_count_93 : decode cX10_count 93 = .ok (.ifCond .ne 10, 3) := by decide +kernel
theorem dX10_count_96 : decode cX10_count 96 = .ok (.aload_n 0, 1) := by decide +kernel
theorem dX10_count_97 : decode cX10_count 97 = .ok (.getfield 68, 3) := by decide +kernel
theorem dX10_count_100 : decode cX10_count 100 = .ok (.goto 48, 3) := by decide +kernel
theorem dX10_count_103 : decode cX10_count 103 = .ok (.iload_n 1, 1) := by decide +kernel
theorem dX10_count_104 : decode cX10_count 104 = .ok (.iconst 1, 1) := by decide +kernel
theorem dX10_count_105 : decode cX10_count 105 = .ok (.if_icmp .ne 10, 3) := by decide +kernel
theorem dX10_count_108 : decode cX10_count 108 = .ok (.aload_n 0, 1) := by decide +kernel
theorem dX10_count_109 : decode cX10_count 109 = .ok (.getfield 20, 3) := by decide +kernel
theorem dX10_count_112 : decode cX10_count 112 = .ok (.goto 36, 3) := by decide +kernel
theorem dX10_count_115 : decode cX10_count 115 = .ok (.iload_n 1, 1) := by decide +kernel
theorem dX10_count_116 : decode cX10_count 116 = .ok (.iconst 2, 1) := by decide +kernel
theorem dX10_count_117 : decode cX10_count 117 = .ok (.if_icmp .ne 10, 3) := by decide +kernel
theorem dX10_count_120 : decode cX10_count 120 = .ok (.aload_n 0, 1) := by decide +kernel
theorem dX10_count_121 : decode cX10_count 121 = .ok (.getfield 24, 3) := by decide +kernel
theorem dX10_count_124 : decode cX10_count 124 = .ok (.goto 24, 3) := by decide +kernel
theorem dX10_count_127 : decode cX10_count 127 = .ok (.iload_n 1, 1) := by decide +kernel
theorem dX10_count_128 : decode cX10_count 128 = .ok (.iconst 3, 1) := by decide +kernel
theorem dX10_count_129 : decode cX10_count 129 = .ok (.if_icmp .ne 7, 3) := by decide +kernel
theorem dX10_count_132 : decode cX10_count 132 = .ok (.iload_n 2, 1) := by decide +kernel
theorem dX10_count_133 : decode cX10_count 133 = .ok (.goto 15, 3) := by decide +kernel
theorem dX10_count_136 : decode cX10_count 136 = .ok (.iload_n 1, 1) := by decide +kernel
theorem dX10_count_137 : decode cX10_count 137 = .ok (.iconst 4, 1) := by decide +kernel
theorem dX10_count_138 : decode cX10_count 138 = .ok (.if_icmp .ne 7, 3) := by decide +kernel
theorem dX10_count_141 : decode cX10_count 141 = .ok (.iload_n 3, 1) := by decide +kernel
theorem dX10_count_142 : decode cX10_count 142 = .ok (.goto 6, 3) := by decide +kernel
theorem dX10_count_145 : decode cX10_count 145 = .ok (.sipush (-1002), 3) := by decide +kernel
theorem dX10_count_148 : decode cX10_count 148 = .ok (.ireturn, 1) := by decide +kernel
theorem dJ6_bitCount_0f7a4_0 : decode cJ6_bitCount_0f7a4 0 = .ok (.iload_n 0, 1) := by decide +kernel
theorem dJ6_bitCount_0f7a4_1 : decode cJ6_bitCount_0f7a4 1 = .ok (.iload_n 0, 1) := by decide +kernel
theorem dJ6_bitCount_0f7a4_2 : decode cJ6_bitCount_0f7a4 2 = .ok (.iconst 1, 1) := by decide +kernel
theorem dJ6_bitCount_0f7a4_3 : decode cJ6_bitCount_0f7a4 3 = .ok (.iushr, 1) := by decide +kernel
theorem dJ6_bitCount_0f7a4_4 : decode cJ6_bitCount_0f7a4 4 = .ok (.ldc_w 265, 3) := by decide +kernel
theorem dJ6_bitCount_0f7a4_7 : decode cJ6_bitCount_0f7a4 7 = .ok (.iand, 1) := by decide +kernel
theorem dJ6_bitCount_0f7a4_8 : decode cJ6_bitCount_0f7a4 8 = .ok (.isub, 1) := by decide +kernel
theorem dJ6_bitCount_0f7a4_9 : decode cJ6_bitCount_0f7a4 9 = .ok (.istore_n 0, 1) := by decide +kernel
theorem dJ6_bitCount_0f7a4_10 : decode cJ6_bitCount_0f7a4 10 = .ok (.iload_n 0, 1) := by decide +kernel
theorem dJ6_bitCount_0f7a4_11 : decode cJ6_bitCount_0f7a4 11 = .ok (.ldc_w 266, 3) := by decide +kernel
theorem dJ6_bitCount_0f7a4_14 : decode cJ6_bitCount_0f7a4 14 = .ok (.iand, 1) := by decide +kernel
theorem dJ6_bitCount_0f7a4_15 : decode cJ6_bitCount_0f7a4 15 = .ok (.iload_n 0, 1) := by decide +kernel
theorem dJ6_bitCount_0f7a4_16 : decode cJ6_bitCount_0f7a4 16 = .ok (.iconst 2, 1) := by decide +kernel
theorem dJ6_bitCount_0f7a4_17 : decode cJ6_bitCount_0f7a4 17 = .ok (.iushr, 1) := by decide +kernel
theorem dJ6_bitCount_0f7a4_18 : decode cJ6_bitCount_0f7a4 18 = .ok (.ldc_w 266, 3) := by decide +kernel
theorem dJ6_bitCount_0f7a4_21 : decode cJ6_bitCount_0f7a4 21 = .ok (.iand, 1) := by decide +kernel
theorem dJ6_bitCount_0f7a4_22 : decode cJ6_bitCount_0f7a4 22 = .ok (.iadd, 1) := by decide +kernel
theorem dJ6_bitCount_0f7a4_23 : decode cJ6_bitCount_0f7a4 23 = .ok (.istore_n 0, 1) := by decide +kernel
theorem dJ6_bitCount_0f7a4_24 : decode cJ6_bitCount_0f7a4 24 = .ok (.iload_n 0, 1) := by decide +kernel
theorem dJ6_bitCount_0f7a4_25 : decode cJ6_bitCount_0f7a4 25 = .ok (.iload_n 0, 1) := by decide +kernel
theorem dJ6_bitCount_0f7a4_26 : decode cJ6_bitCount_0f7a4 26 = .ok (.iconst 4, 1) := by decide +kernel
theorem dJ6_bitCount_0f7a4_27 : decode cJ6_bitCount_0f7a4 27 = .ok (.iushr, 1) := by decide +kernel
theorem dJ6_bitCount_0f7a4_28 : decode cJ6_bitCount_0f7a4 28 = .ok (.iadd, 1) := by decide +kernel
theorem dJ6_bitCount_0f7a4_29 : decode cJ6_bitCount_0f7a4 29 = .ok (.ldc_w 267, 3) := by decide +kernel
theorem dJ6_bitCount_0f7a4_32 : decode cJ6_bitCount_0f7a4 32 = .ok (.iand, 1) := by decide +kernel
theorem dJ6_bitCount_0f7a4_33 : decode cJ6_bitCount_0f7a4 33 = .ok (.istore_n 0, 1) := by decide +kernel
theorem dJ6_bitCount_0f7a4_34 : decode cJ6_bitCount_0f7a4 34 = .ok (.iload_n 0, 1) := by decide +kernel
theorem dJ6_bitCount_0f7a4_35 : decode cJ6_bitCount_0f7a4 35 = .ok (.iload_n 0, 1) := by decide +kernel
theorem dJ6_bitCount_0f7a4_36 : decode cJ6_bitCount_0f7a4 36 = .ok (.bipush 8, 2) := by decide +kernel
theorem dJ6_bitCount_0f7a4_38 : decode cJ6_bitCount_0f7a4 38 = .ok (.iushr, 1) := by decide +kernel
theorem dJ6_bitCount_0f7a4_39 : decode cJ6_bitCount_0f7a4 39 = .ok (.iadd, 1) := by decide +kernel
theorem dJ6_bitCount_0f7a4_40 : decode cJ6_bitCount_0f7a4 40 = .ok (.istore_n 0, 1) := by decide +kernel
theorem dJ6_bitCount_0f7a4_41 : decode cJ6_bitCount_0f7a4 41 = .ok (.iload_n 0, 1) := by decide +kernel
theorem dJ6_bitCount_0f7a4_42 : decode cJ6_bitCount_0f7a4 42 = .ok (.iload_n 0, 1) := by decide +kernel
theorem dJ6_bitCount_0f7a4_43 : decode cJ6_bitCount_0f7a4 43 = .ok (.bipush 16, 2) := by decide +kernel
theorem dJ6_bitCount_0f7a4_45 : decode cJ6_bitCount_0f7a4 45 = .ok (.iushr, 1) := by decide +kernel
theorem dJ6_bitCount_0f7a4_46 : decode cJ6_bitCount_0f7a4 46 = .ok (.iadd, 1) := by decide +kernel
theorem dJ6_bitCount_0f7a4_47 : decode cJ6_bitCount_0f7a4 47 = .ok (.istore_n 0, 1) := by decide +kernel
theorem dJ6_bitCount_0f7a4_48 : decode cJ6_bitCount_0f7a4 48 = .ok (.iload_n 0, 1) := by decide +kernel
theorem dJ6_bitCount_0f7a4_49 : decode cJ6_bitCount_0f7a4 49 = .ok (.bipush 63, 2) := by decide +kernel
theorem dJ6_bitCount_0f7a4_51 : decode cJ6_bitCount_0f7a4 51 = .ok (.iand, 1) := by decide +kernel
theorem dJ6_bitCount_0f7a4_52 : decode cJ6_bitCount_0f7a4 52 = .ok (.ireturn, 1) := by decide +kernel
theorem dJ9_floorDiv_7cf53_0 : decode cJ9_floorDiv_7cf53 0 = .ok (.iload_n 0, 1) := by decide +kernel
theorem dJ9_floorDiv_7cf53_1 : decode cJ9_floorDiv_7cf53 1 = .ok (.iload_n 1, 1) := by decide +kernel
theorem dJ9_floorDiv_7cf53_2 : decode cJ9_floorDiv_7cf53 2 = .ok (.idiv, 1) := by decide +kernel
theorem dJ9_floorDiv_7cf53_3 : decode cJ9_floorDiv_7cf53 3 = .ok (.istore_n 2, 1) := by decide +kernel
theorem dJ9_floorDiv_7cf53_4 : decode cJ9_floorDiv_7cf53 4 = .ok (.iload_n 0, 1) := by decide +kernel
theorem dJ9_floorDiv_7cf53_5 : decode cJ9_floorDiv_7cf53 5 = .ok (.iload_n 1, 1) := by decide +kernel
theorem dJ9_floorDiv_7cf53_6 : decode cJ9_floorDiv_7cf53 6 = .ok (.ixor, 1) := by decide +kernel
theorem dJ9_floorDiv_7cf53_7 : decode cJ9_floorDiv_7cf53 7 = .ok (.ifCond .ge 14, 3) := by decide +kernel
theorem dJ9_floorDiv_7cf53_10 : decode cJ9_floorDiv_7cf53 10 = .ok (.iload_n 2, 1) := by decide +kernel
theorem dJ9_floorDiv_7cf53_11 : decode cJ9_floorDiv_7cf53 11 = .ok (.iload_n 1, 1) := by decide +kernel
theorem dJ9_floorDiv_7cf53_12 : decode cJ9_floorDiv_7cf53 12 = .ok (.imul, 1) := by decide +kernel
theorem dJ9_floorDiv_7cf53_13 : decode cJ9_floorDiv_7cf53 13 = .ok (.iload_n 0, 1) := by decide +kernel
theorem dJ9_floorDiv_7cf53_14 : decode cJ9_floorDiv_7cf53 14 = .ok (.if_icmp .eq 7, 3) := by decide +kernel
theorem dJ9_floorDiv_7cf53_17 : decode cJ9_floorDiv_7cf53 17 = .ok (.iload_n 2, 1) := by decide +kernel
theorem dJ9_floorDiv_7cf53_18 : decode cJ9_floorDiv_7cf53 18 = .ok (.iconst 1, 1) := by decide +kernel
theorem dJ9_floorDiv_7cf53_19 : decode cJ9_floorDiv_7cf53 19 = .ok (.isub, 1) := by decide +kernel
theorem dJ9_floorDiv_7cf53_20 : decode cJ9_floorDiv_7cf53 20 = .ok (.ireturn, 1) := by decide +kernel
theorem dJ9_floorDiv_7cf53_21 : decode cJ9_floorDiv_7cf53 21 = .ok (.iload_n 2, 1) := by decide +kernel
theorem dJ9_floorDiv_7cf53_22 : decode cJ9_floorDiv_7cf53 22 = .ok (.ireturn, 1) := by decide +kernel
theorem dJ9_abs_0f7a4_0 : decode cJ9_abs_0f7a4 0 = .ok (.iload_n 0, 1) := by decide +kernel
theorem dJ9_abs_0f7a4_1 : decode cJ9_abs_0f7a4 1 = .ok (.ifCond .ge 8, 3) := by decide +kernel
theorem dJ9_abs_0f7a4_4 : decode cJ9_abs_0f7a4 4 = .ok (.iload_n 0, 1) := by decide +kernel
theorem dJ9_abs_0f7a4_5 : decode cJ9_abs_0f7a4 5 = .ok (.ineg, 1) := by decide +kernel
theorem dJ9_abs_0f7a4_6 : decode cJ9_abs_0f7a4 6 = .ok (.goto 4, 3) := by decide +kernel
theorem dJ9_abs_0f7a4_9 : decode cJ9_abs_0f7a4 9 = .ok (.iload_n 0, 1) := by decide +kernel
theorem dJ9_abs_0f7a4_10 : decode cJ9_abs_0f7a4 10 = .ok (.ireturn, 1) := by decide +kernel
theorem dJ9_max_7cf53_0 : decode cJ9_max_7cf53 0 = .ok (.iload_n 0, 1) := by decide +kernel
theorem dJ9_max_7cf53_1 : decode cJ9_max_7cf53 1 = .ok (.iload_n 1, 1) := by decide +kernel
theorem dJ9_max_7cf53_2 : decode cJ9_max_7cf53 2 = .ok (.if_icmp .lt 7, 3) := by decide +kernel
theorem dJ9_max_7cf53_5 : decode cJ9_max_7cf53 5 = .ok (.iload_n 0, 1) := by decide +kernel
theorem dJ9_max_7cf53_6 : decode cJ9_max_7cf53 6 = .ok (.goto 4, 3) := by decide +kernel
theorem dJ9_max_7cf53_9 : decode cJ9_max_7cf53 9 = .ok (.iload_n 1, 1) := by decide +kernel
theorem dJ9_max_7cf53_10 : decode cJ9_max_7cf53 10 = .ok (.ireturn, 1) := by decide +kernel
theorem dJ9_min_7cf53_0 : decode cJ9_min_7cf53 0 = .ok (.iload_n 0, 1) := by decide +kernel
theorem dJ9_min_7cf53_1 : decode cJ9_min_7cf53 1 = .ok (.iload_n 1, 1) := by decide +kernel
theorem dJ9_min_7cf53_2 : decode cJ9_min_7cf53 2 = .ok (.if_icmp .gt 7, 3) := by decide +kernel
theorem dJ9_min_7cf53_5 : decode cJ9_min_7cf53 5 = .ok (.iload_n 0, 1) := by decide +kernel
theorem dJ9_min_7cf53_6 : decode cJ9_min_7cf53 6 = .ok (.goto 4, 3) := by decide +kernel
theorem dJ9_min_7cf53_9 : decode cJ9_min_7cf53 9 = .ok (.iload_n 1, 1) := by decide +kernel
theorem dJ9_min_7cf53_10 : decode cJ9_min_7cf53 10 = .ok (.ireturn, 1) := by decide +kernel
