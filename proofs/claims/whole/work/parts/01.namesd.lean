theorem dX10_near_20 : decode cX10_near 20 = .ok (.iload_n 3, 1) := by decide +kernel
theorem dX10_near_21 : decode cX10_near 21 = .ok (.iconst 1, 1) := by decide +kernel
theorem dX10_near_22 : decode cX10_near 22 = .ok (.isub, 1) := by decide +kernel
theorem dX10_near_23 : decode cX10_near 23 = .ok (.iload_n 2, 1) := by decide +kernel
theorem dX10_near_24 : decode cX10_near 24 = .ok (.isub, 1) := by decide +kernel
theorem dX10_near_25 : decode cX10_near 25 = .ok (.iload_n 3, 1) := by decide +kernel
theorem dX10_near_26 : decode cX10_near 26 = .ok (.idiv, 1) := by decide +kernel
theorem dX10_near_27 : decode cX10_near 27 = .ok (.ineg, 1) := by decide +kernel
theorem dX10_near_28 : decode cX10_near 28 = .ok (.ireturn, 1) := by decide +kernel
set_option maxRecDepth 20000 in
theorem ggX10_wayOf_X10_stepX : GoodIn wsX10_wayOf wsX10_stepX := goodIn_r _ [4] rfl (by decide +kernel)
set_option maxRecDepth 20000 in
theorem gX10_wayOf_X10_stepX : GoodIn wsX10_wayOf (va_wsS RX10 59 yX10_stepX wsX10_stepX) := goodIn_app (goodIn_of _ (by decide +kernel)) ggX10_wayOf_X10_stepX
set_option maxRecDepth 20000 in
theorem ggX10_wayOf_X10_stepY : GoodIn wsX10_wayOf wsX10_stepY := goodIn_r _ [7] rfl (by decide +kernel)
set_option maxRecDepth 20000 in
theorem gX10_wayOf_X10_stepY : GoodIn wsX10_wayOf (va_wsS RX10 55 yX10_stepY wsX10_stepY) := goodIn_app (goodIn_of _ (by decide +kernel)) ggX10_wayOf_X10_stepY
theorem dX10_wayOf_0 : decode cX10_wayOf 0 = .ok (.iconst 0, 1) := by decide +kernel
theorem dX10_wayOf_1 : decode cX10_wayOf 1 = .ok (.istore_n 2, 1) := by decide +kernel
theorem dX10_wayOf_2 : decode cX10_wayOf 2 = .ok (.iconst 0, 1) := by decide +kernel
theorem dX10_wayOf_3 : decode cX10_wayOf 3 = .ok (.istore_n 3, 1) := by decide +kernel
theorem dX10_wayOf_4 : decode cX10_wayOf 4 = .ok (.iload_n 3, 1) := by decide +kernel
theorem dX10_wayOf_5 : decode cX10_wayOf 5 = .ok (.bipush 8, 2) := by decide +kernel
theorem dX10_wayOf_7 : decode cX10_wayOf 7 = .ok (.if_icmp .ge 31, 3) := by decide +kernel
theorem dX10_wayOf_10 : decode cX10_wayOf 10 = .ok (.iload_n 3, 1) := by decide +kernel
theorem dX10_wayOf_11 : decode cX10_wayOf 11 = .ok (.invokestatic 59, 3) := by decide +kernel
theorem dX10_wayOf_14 : decode cX10_wayOf 14 = .ok (.iload_n 0, 1) := by decide +kernel
theorem dX10_wayOf_15 : decode cX10_wayOf 15 = .ok (.if_icmp .ne 15, 3) := by decide +kernel
theorem dX10_wayOf_18 : decode cX10_wayOf 18 = .ok (.iload_n 3, 1) := by decide +kernel
theorem dX10_wayOf_19 : decode cX10_wayOf 19 = .ok (.invokestatic 55, 3) := by decide +kernel
theorem dX10_wayOf_22 : decode cX10_wayOf 22 = .ok (.iload_n 1, 1) := by decide +kernel
theorem dX10_wayOf_23 : decode cX10_wayOf 23 = .ok (.if_icmp .ne 7, 3) := by decide +kernel
theorem dX10_wayOf_26 : decode cX10_wayOf 26 = .ok (.iload_n 3, 1) := by decide +kernel
theorem dX10_wayOf_27 : decode cX10_wayOf 27 = .ok (.goto 4, 3) := by decide +kernel
theorem dX10_wayOf_30 : decode cX10_wayOf 30 = .ok (.iload_n 2, 1) := by decide +kernel
theorem dX10_wayOf_31 : decode cX10_wayOf 31 = .ok (.istore_n 2, 1) := by decide +kernel
theorem dX10_wayOf_32 : decode cX10_wayOf 32 = .ok (.iinc 3 1, 3) := by decide +kernel
theorem dX10_wayOf_35 : decode cX10_wayOf 35 = .ok (.goto (-31), 3) := by decide +kernel
theorem dX10_wayOf_38 : decode cX10_wayOf 38 = .ok (.iload_n 2, 1) := by decide +kernel
theorem dX10_wayOf_39 : decode cX10_wayOf 39 = .ok (.ireturn, 1) := by decide +kernel
set_option maxRecDepth 20000 in
theorem ggX10_draw_X10_in : GoodIn wsX10_draw wsX10_in := goodIn_r _ [9] rfl (by decide +kernel)
set_option maxRecDepth 20000 in
theorem gX10_draw_X10_in : GoodIn wsX10_draw (va_wsS RX10 64 yX10_in wsX10_in) := goodIn_app (goodIn_of _ (by decide +kernel)) ggX10_draw_X10_in
set_option maxRecDepth 20000 in
theorem ggX10_draw_X10_size : GoodIn wsX10_draw wsX10_size := goodIn_r _ [12] rfl (by decide +kernel)
set_option maxRecDepth 20000 in
theorem gX10_draw_X10_size : GoodIn wsX10_draw (va_wsS RX10 83 yX10_size wsX10_size) := goodIn_app (goodIn_of _ (by decide +kernel)) ggX10_draw_X10_size
set_option maxRecDepth 20000 in
theorem ggX10_draw_X10_near : GoodIn wsX10_draw wsX10_near := goodIn_r _ [15] rfl (by decide +kernel)
set_option maxRecDepth 20000 in
theorem gX10_draw_X10_near : GoodIn wsX10_draw (va_wsS RX10 86 yX10_near wsX10_near) := goodIn_app (goodIn_of _ (by decide +kernel)) ggX10_draw_X10_near
set_option maxRecDepth 20000 in
theorem ggX10_draw_X10_wayOf : GoodIn wsX10_draw wsX10_wayOf := goodIn_r _ [18, 19, 20, 8, 21, 22, 23, 24] rfl (by decide +kernel)
set_option maxRecDepth 20000 in
theorem gX10_draw_X10_wayOf : GoodIn wsX10_draw (va_wsS RX10 90 yX10_wayOf wsX10_wayOf) := goodIn_app (goodIn_of _ (by decide +kernel)) ggX10_draw_X10_wayOf
theorem dX10_draw_0 : decode cX10_draw 0 = .ok (.aload_n 0, 1) := by decide +kernel
theorem dX10_draw_1 : decode cX10_draw 1 = .ok (.iconst 0, 1) := by decide +kernel
theorem dX10_draw_2 : decode cX10_draw 2 = .ok (.putfield 52, 3) := by decide +kernel
theorem dX10_draw_5 : decode cX10_draw 5 = .ok (.iload_n 1, 1) := by decide +kernel
theorem dX10_draw_6 : decode cX10_draw 6 = .ok (.i2l, 1) := by decide +kernel
theorem dX10_draw_7 : decode cX10_draw 7 = .ok (.ldc2_w 81, 3) := by decide +kernel
theorem dX10_draw_10 : decode cX10_draw 10 = .ok (.ldc2_w 71, 3) := by decide +kernel
theorem dX10_draw_13 : decode cX10_draw 13 = .ok (.invokestatic 64, 3) := by decide +kernel
theorem dX10_draw_16 : decode cX10_draw 16 = .ok (.ifCond .eq 25, 3) := by decide +kernel
theorem dX10_draw_19 : decode cX10_draw 19 = .ok (.iload_n 2, 1) := by decide +kernel
theorem dX10_draw_20 : decode cX10_draw 20 = .ok (.i2l, 1) := by decide +kernel
theorem dX10_draw_21 : decode cX10_draw 21 = .ok (.ldc2_w 81, 3) := by decide +kernel
theorem dX10_draw_24 : decode cX10_draw 24 = .ok (.ldc2_w 71, 3) := by decide +kernel
theorem dX10_draw_27 : decode cX10_draw 27 = .ok (.invokestatic 64, 3) := by decide +kernel
theorem dX10_draw_30 : decode cX10_draw 30 = .ok (.ifCond .eq 11, 3) := by decide +kernel
theorem dX10_draw_33 : decode cX10_draw 33 = .ok (.iload_n 1, 1) := by decide +kernel
theorem dX10_draw_34 : decode cX10_draw 34 = .ok (.ifCond .ne 11, 3) := by decide +kernel
theorem dX10_draw_37 : decode cX10_draw 37 = .ok (.iload_n 2, 1) := by decide +kernel
theorem dX10_draw_38 : decode cX10_draw 38 = .ok (.ifCond .ne 7, 3) := by decide +kernel
theorem dX10_draw_41 : decode cX10_draw 41 = .ok (.sipush (-1002), 3) := by decide +kernel
theorem dX10_draw_44 : decode cX10_draw 44 = .ok (.ireturn, 1) := by decide +kernel
theorem dX10_draw_45 : decode cX10_draw 45 = .ok (.iload_n 1, 1) := by decide +kernel
theorem dX10_draw_46 : decode cX10_draw 46 = .ok (.invokestatic 83, 3) := by decide +kernel
theorem dX10_draw_49 : decode cX10_draw 49 = .ok (.iload_n 2, 1) := by decide +kernel
theorem dX10_draw_50 : decode cX10_draw 50 = .ok (.invokestatic 83, 3) := by decide +kernel
theorem dX10_draw_53 : decode cX10_draw 53 = .ok (.if_icmp .le 10, 3) := by decide +kernel
theorem dX10_draw_56 : decode cX10_draw 56 = .ok (.iload_n 1, 1) := by decide +kernel
theorem dX10_draw_57 : decode cX10_draw 57 = .ok (.invokestatic 83, 3) := by decide +kernel
theorem dX10_draw_60 : decode cX10_draw 60 = .ok (.goto 7, 3) := by decide +kernel
theorem dX10_draw_63 : decode cX10_draw 63 = .ok (.iload_n 2, 1) := by decide +kernel
theorem dX10_draw_64 : decode cX10_draw 64 = .ok (.invokestatic 83, 3) := by decide +kernel
theorem dX10_draw_67 : decode cX10_draw 67 = .ok (.istore_n 3, 1) := by decide +kernel
theorem dX10_draw_68 : decode cX10_draw 68 = .ok (.aload_n 0, 1) := by decide +kernel
theorem dX10_draw_69 : decode cX10_draw 69 = .ok (.getfield 68, 3) := by decide +kernel
theorem dX10_draw_72 : decode cX10_draw 72 = .ok (.iload_n 3, 1) := by decide +kernel
theorem dX10_draw_73 : decode cX10_draw 73 = .ok (.iadd, 1) := by decide +kernel
theorem dX10_draw_74 : decode cX10_draw 74 = .ok (.bipush 60, 2) := by decide +kernel
theorem dX10_draw_76 : decode cX10_draw 76 = .ok (.if_icmp .le 7, 3) := by decide +kernel
theorem dX10_draw_79 : decode cX10_draw 79 = .ok (.sipush (-1004), 3) := by decide +kernel
theorem dX10_draw_82 : decode cX10_draw 82 = .ok (.ireturn, 1) := by decide +kernel
theorem dX10_draw_83 : decode cX10_draw 83 = .ok (.iconst 1, 1) := by decide +kernel
theorem dX10_draw_84 : decode cX10_draw 84 = .ok (.istore 4, 2) := by decide +kernel
theorem dX10_draw_86 : decode cX10_draw 86 = .ok (.iload 4, 2) := by decide +kernel
theorem dX10_draw_88 : decode cX10_draw 88 = .ok (.iload_n 3, 1) := by decide +kernel
theorem dX10_draw_89 : decode cX10_draw 89 = .ok (.if_icmp .gt 77, 3) := by decide +kernel
theorem dX10_draw_92 : decode cX10_draw 92 = .ok (.iload_n 1, 1) := by decide +kernel
theorem dX10_draw_93 : decode cX10_draw 93 = .ok (.iload 4, 2) := by decide +kernel
theorem dX10_draw_95 : decode cX10_draw 95 = .ok (.imul, 1) := by decide +kernel
theorem dX10_draw_96 : decode cX10_draw 96 = .ok (.iload_n 3, 1) := by decide +kernel
theorem dX10_draw_97 : decode cX10_draw 97 = .ok (.invokestatic 86, 3) := by decide +kernel
theorem dX10_draw_100 : decode cX10_draw 100 = .ok (.iload_n 1, 1) := by decide +kernel
theorem dX10_draw_101 : decode cX10_draw 101 = .ok (.iload 4, 2) := by decide +kernel
theorem dX10_draw_103 : decode cX10_draw 103 = .ok (.iconst 1, 1) := by decide +kernel
theorem dX10_draw_104 : decode cX10_draw 104 = .ok (.isub, 1) := by decide +kernel
theorem dX10_draw_105 : decode cX10_draw 105 = .ok (.imul, 1) := by decide +kernel
theorem dX10_draw_106 : decode cX10_draw 106 = .ok (.iload_n 3, 1) := by decide +kernel
theorem dX10_draw_107 : decode cX10_draw 107 = .ok (.invokestatic 86, 3) := by decide +kernel
theorem dX10_draw_110 : decode cX10_draw 110 = .ok (.isub, 1) := by decide +kernel
theorem dX10_draw_111 : decode cX10_draw 111 = .ok (.istore 5, 2) := by decide +kernel
theorem dX10_draw_113 : decode cX10_draw 113 = .ok (.iload_n 2, 1) := by decide +kernel
theorem dX10_draw_114 : decode cX10_draw 114 = .ok (.iload 4, 2) := by decide +kernel
theorem dX10_draw_116 : decode cX10_draw 116 = .ok (.imul, 1) := by decide +kernel
theorem dX10_draw_117 : decode cX10_draw 117 = .ok (.iload_n 3, 1) := by decide +kernel
theorem dX10_draw_118 : decode cX10_draw 118 = .ok (.invokestatic 86, 3) := by decide +kernel
theorem dX10_draw_121 : decode cX10_draw 121 = .ok (.iload_n 2, 1) := by decide +kernel
theorem dX10_draw_122 : decode cX10_draw 122 = .ok (.iload 4, 2) := by decide +kernel
theorem dX10_draw_124 : decode cX10_draw 124 = .ok (.iconst 1, 1) := by decide +kernel
theorem dX10_draw_125 : decode cX10_draw 125 = .ok (.isub, 1) := by decide +kernel
theorem dX10_draw_126 : decode cX10_draw 126 = .ok (.imul, 1) := by decide +kernel
theorem dX10_draw_127 : decode cX10_draw 127 = .ok (.iload_n 3, 1) := by decide +kernel
theorem dX10_draw_128 : decode cX10_draw 128 = .ok (.invokestatic 86, 3) := by decide +kernel
theorem dX10_draw_131 : decode cX10_draw 131 = .ok (.isub, 1) := by decide +kernel
theorem dX10_draw_132 : decode cX10_draw 132 = .ok (.istore 6, 2) := by decide +kernel
theorem dX10_draw_134 : decode cX10_draw 134 = .ok (.aload_n 0, 1) := by decide +kernel
theorem dX10_draw_135 : decode cX10_draw 135 = .ok (.getfield 7, 3) := by decide +kernel
theorem dX10_draw_138 : decode cX10_draw 138 = .ok (.aload_n 0, 1) := by decide +kernel
theorem dX10_draw_139 : decode cX10_draw 139 = .ok (.getfield 68, 3) := by decide +kernel
theorem dX10_draw_142 : decode cX10_draw 142 = .ok (.iload 5, 2) := by decide +kernel
theorem dX10_draw_144 : decode cX10_draw 144 = .ok (.iload 6, 2) := by decide +kernel
theorem dX10_draw_146 : decode cX10_draw 146 = .ok (.invokestatic 90, 3) := by decide +kernel
theorem dX10_draw_149 : decode cX10_draw 149 = .ok (.iastore, 1) := by decide +kernel
theorem dX10_draw_150 : decode cX10_draw 150 = .ok (.aload_n 0, 1) := by decide +kernel
theorem dX10_draw_151 : decode cX10_draw 151 = .ok (.dup, 1) := by decide +kernel
theorem dX10_draw_152 : decode cX10_draw 152 = .ok (.getfield 68, 3) := by decide +kernel
theorem dX10_draw_155 : decode cX10_draw 155 = .ok (.iconst 1, 1) := by decide +kernel
theorem dX10_draw_156 : decode cX10_draw 156 = .ok (.iadd, 1) := by decide +kernel
theorem dX10_draw_157 : decode cX10_draw 157 = .ok (.putfield 68, 3) := by decide +kernel
theorem dX10_draw_160 : decode cX10_draw 160 = .ok (.iinc 4 1, 3) := by decide +kernel
theorem dX10_draw_163 : decode cX10_draw 163 = .ok (.goto (-77), 3) := by decide +kernel
theorem dX10_draw_166 : decode cX10_draw 166 = .ok (.aload_n 0, 1) := by decide +kernel
theorem dX10_draw_167 : decode cX10_draw 167 = .ok (.getfield 68, 3) := by decide +kernel
theorem dX10_draw_170 : decode cX10_draw 170 = .ok (.ireturn, 1) := by decide +kernel
set_option maxRecDepth 20000 in
theorem ggX10_word_X10_in : GoodIn wsX10_word wsX10_in := goodIn_r _ [6] rfl (by decide +kernel)
set_option maxRecDepth 20000 in
theorem gX10_word_X10_in : GoodIn wsX10_word (va_wsS RX10 64 yX10_in wsX10_in) := goodIn_app (goodIn_of _ (by decide +kernel)) ggX10_word_X10_in
theorem dX10_word_0 : decode cX10_word 0 = .ok (.aload_n 0, 1) := by decide +kernel
theorem dX10_word_1 : decode cX10_word 1 = .ok (.iconst 0, 1) := by decide +kernel
theorem dX10_word_2 : decode cX10_word 2 = .ok (.putfield 52, 3) := by decide +kernel
theorem dX10_word_5 : decode cX10_word 5 = .ok (.iload_n 1, 1) := by decide +kernel
theorem dX10_word_6 : decode cX10_word 6 = .ok (.i2l, 1) := by decide +kernel
theorem dX10_word_7 : decode cX10_word 7 = .ok (.lconst 1, 1) := by decide +kernel
theorem dX10_word_8 : decode cX10_word 8 = .ok (.ldc2_w 71, 3) := by decide +kernel
theorem dX10_word_11 : decode cX10_word 11 = .ok (.invokestatic 64, 3) := by decide +kernel
theorem dX10_word_14 : decode cX10_word 14 = .ok (.ifCond .eq 27, 3) := by decide +kernel
theorem dX10_word_17 : decode cX10_word 17 = .ok (.iload_n 2, 1) := by decide +kernel
theorem dX10_word_18 : decode cX10_word 18 = .ok (.i2l, 1) := by decide +kernel
theorem dX10_word_19 : decode cX10_word 19 = .ok (.lconst 0, 1) := by decide +kernel
theorem dX10_word_20 : decode cX10_word 20 = .ok (.iload_n 1, 1) := by decide +kernel
theorem dX10_word_21 : decode cX10_word 21 = .ok (.i2l, 1) := by decide +kernel
theorem dX10_word_22 : decode cX10_word 22 = .ok (.invokestatic 64, 3) := by decide +kernel
theorem dX10_word_25 : decode cX10_word 25 = .ok (.ifCond .eq 16, 3) := by decide +kernel
theorem dX10_word_28 : decode cX10_word 28 = .ok (.iload_n 3, 1) := by decide +kernel
theorem dX10_word_29 : decode cX10_word 29 = .ok (.i2l, 1) := by decide +kernel
theorem dX10_word_30 : decode cX10_word 30 = .ok (.lconst 0, 1) := by decide +kernel
theorem dX10_word_31 : decode cX10_word 31 = .ok (.iload_n 1, 1) := by decide +kernel
theorem dX10_word_32 : decode cX10_word 32 = .ok (.iconst 1, 1) := by decide +kernel
theorem dX10_word_33 : decode cX10_word 33 = .ok (.isub, 1) := by decide +kernel
theorem dX10_word_34 : decode cX10_word 34 = .ok (.i2l, 1) := by decide +kernel
theorem dX10_word_35 : decode cX10_word 35 = .ok (.invokestatic 64, 3) := by decide +kernel
theorem dX10_word_38 : decode cX10_word 38 = .ok (.ifCond .ne 7, 3) := by decide +kernel
theorem dX10_word_41 : decode cX10_word 41 = .ok (.sipush (-1002), 3) := by decide +kernel
theorem dX10_word_44 : decode cX10_word 44 = .ok (.ireturn, 1) := by decide +kernel
theorem dX10_word_45 : decode cX10_word 45 = .ok (.iload_n 3, 1) := by decide +kernel
theorem dX10_word_46 : decode cX10_word 46 = .ok (.iconst 1, 1) := by decide +kernel
theorem dX10_word_47 : decode cX10_word 47 = .ok (.iadd, 1) := by decide +kernel
theorem dX10_word_48 : decode cX10_word 48 = .ok (.iload_n 2, 1) := by decide +kernel
theorem dX10_word_49 : decode cX10_word 49 = .ok (.imul, 1) := by decide +kernel
theorem dX10_word_50 : decode cX10_word 50 = .ok (.iload_n 1, 1) := by decide +kernel
theorem dX10_word_51 : decode cX10_word 51 = .ok (.idiv, 1) := by decide +kernel
theorem dX10_word_52 : decode cX10_word 52 = .ok (.iload_n 3, 1) := by decide +kernel
theorem dX10_word_53 : decode cX10_word 53 = .ok (.iload_n 2, 1) := by decide +kernel
theorem dX10_word_54 : decode cX10_word 54 = .ok (.imul, 1) := by decide +kernel
theorem dX10_word_55 : decode cX10_word 55 = .ok (.iload_n 1, 1) := by decide +kernel
theorem dX10_word_56 : decode cX10_word 56 = .ok (.idiv, 1) := by decide +kernel
theorem dX10_word_57 : decode cX10_word 57 = .ok (.if_icmp .le 7, 3) := by decide +kernel
theorem dX10_word_60 : decode cX10_word 60 = .ok (.iconst 1, 1) := by decide +kernel
theorem dX10_word_61 : decode cX10_word 61 = .ok (.goto 4, 3) := by decide +kernel
theorem dX10_word_64 : decode cX10_word 64 = .ok (.iconst 0, 1) := by decide +kernel
theorem dX10_word_65 : decode cX10_word 65 = .ok (.ireturn, 1) := by decide +kernel
theorem dX10_isSo_0 : decode cX10_isSo 0 = .ok (.sipush (-999), 3) := by decide +kernel
theorem dX10_isSo_3 : decode cX10_isSo 3 = .ok (.istore_n 3, 1) := by decide +kernel
theorem dX10_isSo_4 : decode cX10_isSo 4 = .ok (.iconst 1, 1) := by decide +kernel
theorem dX10_isSo_5 : decode cX10_isSo 5 = .ok (.istore 4, 2) := by decide +kernel
theorem dX10_isSo_7 : decode cX10_isSo 7 = .ok (.iload_n 1, 1) := by decide +kernel
theorem dX10_isSo_8 : decode cX10_isSo 8 = .ok (.iconst 1, 1) := by decide +kernel
theorem dX10_isSo_9 : decode cX10_isSo 9 = .ok (.iadd, 1) := by decide +kernel
theorem dX10_isSo_10 : decode cX10_isSo 10 = .ok (.istore 5, 2) := by decide +kernel
theorem dX10_isSo_12 : decode cX10_isSo 12 = .ok (.iload 5, 2) := by decide +kernel
theorem dX10_isSo_14 : decode cX10_isSo 14 = .ok (.iload_n 2, 1) := by decide +kernel
theorem dX10_isSo_15 : decode cX10_isSo 15 = .ok (.if_icmp .ge 63, 3) := by decide +kernel
theorem dX10_isSo_18 : decode cX10_isSo 18 = .ok (.aload_n 0, 1) := by decide +kernel
theorem dX10_isSo_19 : decode cX10_isSo 19 = .ok (.getfield 7, 3) := by decide +kernel
theorem dX10_isSo_22 : decode cX10_isSo 22 = .ok (.iload 5, 2) := by decide +kernel
theorem dX10_isSo_24 : decode cX10_isSo 24 = .ok (.iaload, 1) := by decide +kernel
theorem dX10_isSo_25 : decode cX10_isSo 25 = .ok (.aload_n 0, 1) := by decide +kernel
theorem dX10_isSo_26 : decode cX10_isSo 26 = .ok (.getfield 7, 3) := by decide +kernel
theorem dX10_isSo_29 : decode cX10_isSo 29 = .ok (.iload_n 1, 1) := by decide +kernel
theorem dX10_isSo_30 : decode cX10_isSo 30 = .ok (.iaload, 1) := by decide +kernel
theorem dX10_isSo_31 : decode cX10_isSo 31 = .ok (.if_icmp .eq 41, 3) := by decide +kernel
theorem dX10_isSo_34 : decode cX10_isSo 34 = .ok (.iload 4, 2) := by decide +kernel
theorem dX10_isSo_36 : decode cX10_isSo 36 = .ok (.ifCond .eq 25, 3) := by decide +kernel
theorem dX10_isSo_39 : decode cX10_isSo 39 = .ok (.iload_n 3, 1) := by decide +kernel
theorem dX10_isSo_40 : decode cX10_isSo 40 = .ok (.sipush (-999), 3) := by decide +kernel
theorem dX10_isSo_43 : decode cX10_isSo 43 = .ok (.if_icmp .eq 14, 3) := by decide +kernel
theorem dX10_isSo_46 : decode cX10_isSo 46 = .ok (.iload_n 3, 1) := by decide +kernel
theorem dX10_isSo_47 : decode cX10_isSo 47 = .ok (.aload_n 0, 1) := by decide +kernel
theorem dX10_isSo_48 : decode cX10_isSo 48 = .ok (.getfield 7, 3) := by decide +kernel
theorem dX10_isSo_51 : decode cX10_isSo 51 = .ok (.iload 5, 2) := by decide +kernel
theorem dX10_isSo_53 : decode cX10_isSo 53 = .ok (.iaload, 1) := by decide +kernel
theorem dX10_isSo_54 : decode cX10_isSo 54 = .ok (.if_icmp .ne 7, 3) := by decide +kernel
theorem dX10_isSo_57 : decode cX10_isSo 57 = .ok (.iconst 1, 1) := by decide +kernel
theorem dX10_isSo_58 : decode cX10_isSo 58 = .ok (.goto 4, 3) := by decide +kernel
theorem dX10_isSo_61 : decode cX10_isSo 61 = .ok (.iconst 0, 1) := by decide +kernel
theorem dX10_isSo_62 : decode cX10_isSo 62 = .ok (.istore 4, 2) := by decide +kernel
theorem dX10_isSo_64 : decode cX10_isSo 64 = .ok (.aload_n 0, 1) := by decide +kernel
theorem dX10_isSo_65 : decode cX10_isSo 65 = .ok (.getfield 7, 3) := by decide +kernel
theorem dX10_isSo_68 : decode cX10_isSo 68 = .ok (.iload 5, 2) := by decide +kernel
theorem dX10_isSo_70 : decode cX10_isSo 70 = .ok (.iaload, 1) := by decide +kernel
theorem dX10_isSo_71 : decode cX10_isSo 71 = .ok (.istore_n 3, 1) := by decide +kernel
theorem dX10_isSo_72 : decode cX10_isSo 72 = .ok (.iinc 5 1, 3) := by decide +kernel
theorem dX10_isSo_75 : decode cX10_isSo 75 = .ok (.goto (-63), 3) := by decide +kernel
theorem dX10_isSo_78 : decode cX10_isSo 78 = .ok (.iload_n 3, 1) := by decide +kernel
theorem dX10_isSo_79 : decode cX10_isSo 79 = .ok (.sipush (-999), 3) := by decide +kernel
theorem dX10_isSo_82 : decode cX10_isSo 82 = .ok (.if_icmp .ne 7, 3) := by decide +kernel
theorem dX10_isSo_85 : decode cX10_isSo 85 = .ok (.iconst 1, 1) := by decide +kernel
theorem dX10_isSo_86 : decode cX10_isSo 86 = .ok (.goto 17, 3) := by decide +kernel
theorem dX10_isSo_89 : decode cX10_isSo 89 = .ok (.iload_n 3, 1) := by decide +kernel
theorem dX10_isSo_90 : decode cX10_isSo 90 = .ok (.aload_n 0, 1) := by decide +kernel
theorem dX10_isSo_91 : decode cX10_isSo 91 = .ok (.getfield 7, 3) := by decide +kernel
theorem dX10_isSo_94 : decode cX10_isSo 94 = .ok (.iload_n 1, 1) := by decide +kernel
theorem dX10_isSo_95 : decode cX10_isSo 95 = .ok (.iaload, 1) := by decide +kernel
theorem dX10_isSo_96 : decode cX10_isSo 96 = .ok (.isub, 1) := by decide +kernel
theorem dX10_isSo_97 : decode cX10_isSo 97 = .ok (.bipush 8, 2) := by decide +kernel
theorem dX10_isSo_99 : decode cX10_isSo 99 = .ok (.iadd, 1) := by decide +kernel
theorem dX10_isSo_100 : decode cX10_isSo 100 = .ok (.bipush 8, 2) := by decide +kernel
theorem dX10_isSo_102 : decode cX10_isSo 102 = .ok (.irem, 1) := by decide +kernel
theorem dX10_isSo_103 : decode cX10_isSo 103 = .ok (.istore 5, 2) := by decide +kernel
theorem dX10_isSo_105 : decode cX10_isSo 105 = .ok (.iload 4, 2) := by decide +kernel
theorem dX10_isSo_107 : decode cX10_isSo 107 = .ok (.ifCond .eq 20, 3) := by decide +kernel
theorem dX10_isSo_110 : decode cX10_isSo 110 = .ok (.iload 5, 2) := by decide +kernel
theorem dX10_isSo_112 : decode cX10_isSo 112 = .ok (.iconst 1, 1) := by decide +kernel
theorem dX10_isSo_113 : decode cX10_isSo 113 = .ok (.if_icmp .eq 10, 3) := by decide +kernel
theorem dX10_isSo_116 : decode cX10_isSo 116 = .ok (.iload 5, 2) := by decide +kernel
theorem dX10_isSo_118 : decode cX10_isSo 118 = .ok (.bipush 7, 2) := by decide +kernel
theorem dX10_isSo_120 : decode cX10_isSo 120 = .ok (.if_icmp .ne 7, 3) := by decide +kernel
theorem dX10_isSo_123 : decode cX10_isSo 123 = .ok (.iconst 1, 1) := by decide +kernel
theorem dX10_isSo_124 : decode cX10_isSo 124 = .ok (.goto 4, 3) := by decide +kernel
theorem dX10_isSo_127 : decode cX10_isSo 127 = .ok (.iconst 0, 1) := by decide +kernel
theorem dX10_isSo_128 : decode cX10_isSo 128 = .ok (.ireturn, 1) := by decide +kernel
theorem dX10_spans_0 : decode cX10_spans 0 = .ok (.aload_n 0, 1) := by decide +kernel
theorem dX10_spans_1 : decode cX10_spans 1 = .ok (.getfield 13, 3) := by decide +kernel
theorem dX10_spans_4 : decode cX10_spans 4 = .ok (.iconst 0, 1) := by decide +kernel
theorem dX10_spans_5 : decode cX10_spans 5 = .ok (.ldc2_w 93, 3) := by decide +kernel
theorem dX10_spans_8 : decode cX10_spans 8 = .ok (.lastore, 1) := by decide +kernel
theorem dX10_spans_9 : decode cX10_spans 9 = .ok (.aload_n 0, 1) := by decide +kernel
theorem dX10_spans_10 : decode cX10_spans 10 = .ok (.getfield 13, 3) := by decide +kernel
theorem dX10_spans_13 : decode cX10_spans 13 = .ok (.iconst 1, 1) := by decide +kernel
theorem dX10_spans_14 : decode cX10_spans 14 = .ok (.lconst 1, 1) := by decide +kernel
theorem dX10_spans_15 : decode cX10_spans 15 = .ok (.lastore, 1) := by decide +kernel
theorem dX10_spans_16 : decode cX10_spans 16 = .ok (.aload_n 0, 1) := by decide +kernel
theorem dX10_spans_17 : decode cX10_spans 17 = .ok (.getfield 17, 3) := by decide +kernel
theorem dX10_spans_20 : decode cX10_spans 20 = .ok (.iconst 0, 1) := by decide +kernel
theorem dX10_spans_21 : decode cX10_spans 21 = .ok (.ldc2_w 95, 3) := by decide +kernel
theorem dX10_spans_24 : decode cX10_spans 24 = .ok (.lastore, 1) := by decide +kernel
theorem dX10_spans_25 : decode cX10_spans 25 = .ok (.aload_n 0, 1) := by decide +kernel
theorem dX10_spans_26 : decode cX10_spans 26 = .ok (.getfield 17, 3) := by decide +kernel
theorem dX10_spans_29 : decode cX10_spans 29 = .ok (.iconst 1, 1) := by decide +kernel
theorem dX10_spans_30 : decode cX10_spans 30 = .ok (.lconst 1, 1) := by decide +kernel
theorem dX10_spans_31 : decode cX10_spans 31 = .ok (.lastore, 1) := by decide +kernel
theorem dX10_spans_32 : decode cX10_spans 32 = .ok (.iconst 1, 1) := by decide +kernel
theorem dX10_spans_33 : decode cX10_spans 33 = .ok (.istore_n 3, 1) := by decide +kernel
theorem dX10_spans_34 : decode cX10_spans 34 = .ok (.iload_n 1, 1) := by decide +kernel
theorem dX10_spans_35 : decode cX10_spans 35 = .ok (.istore 4, 2) := by decide +kernel
theorem dX10_spans_37 : decode cX10_spans 37 = .ok (.iload 4, 2) := by decide +kernel
theorem dX10_spans_39 : decode cX10_spans 39 = .ok (.iload_n 2, 1) := by decide +kernel
theorem dX10_spans_40 : decode cX10_spans 40 = .ok (.if_icmp .ge 160, 3) := by decide +kernel
theorem dX10_spans_43 : decode cX10_spans 43 = .ok (.iconst 0, 1) := by decide +kernel
theorem dX10_spans_44 : decode cX10_spans 44 = .ok (.istore 5, 2) := by decide +kernel
theorem dX10_spans_46 : decode cX10_spans 46 = .ok (.iload 4, 2) := by decide +kernel
theorem dX10_spans_48 : decode cX10_spans 48 = .ok (.iconst 1, 1) := by decide +kernel
theorem dX10_spans_49 : decode cX10_spans 49 = .ok (.iadd, 1) := by decide +kernel
theorem dX10_spans_50 : decode cX10_spans 50 = .ok (.istore 6, 2) := by decide +kernel
theorem dX10_spans_52 : decode cX10_spans 52 = .ok (.iload 6, 2) := by decide +kernel
theorem dX10_spans_54 : decode cX10_spans 54 = .ok (.iload_n 2, 1) := by decide +kernel
theorem dX10_spans_55 : decode cX10_spans 55 = .ok (.if_icmp .gt 139, 3) := by decide +kernel
theorem dX10_spans_58 : decode cX10_spans 58 = .ok (.iload 5, 2) := by decide +kernel
theorem dX10_spans_60 : decode cX10_spans 60 = .ok (.aload_n 0, 1) := by decide +kernel
theorem dX10_spans_61 : decode cX10_spans 61 = .ok (.getfield 7, 3) := by decide +kernel
theorem dX10_spans_64 : decode cX10_spans 64 = .ok (.iload 6, 2) := by decide +kernel
theorem dX10_spans_66 : decode cX10_spans 66 = .ok (.iconst 1, 1) := by decide +kernel
theorem dX10_spans_67 : decode cX10_spans 67 = .ok (.isub, 1) := by decide +kernel
theorem dX10_spans_68 : decode cX10_spans 68 = .ok (.iaload, 1) := by decide +kernel
theorem dX10_spans_69 : decode cX10_spans 69 = .ok (.iconst 2, 1) := by decide +kernel
theorem dX10_spans_70 : decode cX10_spans 70 = .ok (.irem, 1) := by decide +kernel
theorem dX10_spans_71 : decode cX10_spans 71 = .ok (.iadd, 1) := by decide +kernel
theorem dX10_spans_72 : decode cX10_spans 72 = .ok (.istore 5, 2) := by decide +kernel
theorem dX10_spans_74 : decode cX10_spans 74 = .ok (.iload_n 3, 1) := by decide +kernel
theorem dX10_spans_75 : decode cX10_spans 75 = .ok (.ifCond .ne 32, 3) := by decide +kernel
theorem dX10_spans_78 : decode cX10_spans 78 = .ok (.iload 5, 2) := by decide +kernel
theorem dX10_spans_80 : decode cX10_spans 80 = .ok (.iconst 1, 1) := by decide +kernel
theorem dX10_spans_81 : decode cX10_spans 81 = .ok (.isub, 1) := by decide +kernel
theorem dX10_spans_82 : decode cX10_spans 82 = .ok (.i2l, 1) := by decide +kernel
theorem dX10_spans_83 : decode cX10_spans 83 = .ok (.aload_n 0, 1) := by decide +kernel
theorem dX10_spans_84 : decode cX10_spans 84 = .ok (.getfield 13, 3) := by decide +kernel
theorem dX10_spans_87 : decode cX10_spans 87 = .ok (.iconst 1, 1) := by decide +kernel
theorem dX10_spans_88 : decode cX10_spans 88 = .ok (.laload, 1) := by decide +kernel
theorem dX10_spans_89 : decode cX10_spans 89 = .ok (.lmul, 1) := by decide +kernel
theorem dX10_spans_90 : decode cX10_spans 90 = .ok (.aload_n 0, 1) := by decide +kernel
theorem dX10_spans_91 : decode cX10_spans 91 = .ok (.getfield 13, 3) := by decide +kernel
theorem dX10_spans_94 : decode cX10_spans 94 = .ok (.iconst 0, 1) := by decide +kernel
theorem dX10_spans_95 : decode cX10_spans 95 = .ok (.laload, 1) := by decide +kernel
theorem dX10_spans_96 : decode cX10_spans 96 = .ok (.iload 6, 2) := by decide +kernel
theorem dX10_spans_98 : decode cX10_spans 98 = .ok (.iload 4, 2) := by decide +kernel
theorem dX10_spans_100 : decode cX10_spans 100 = .ok (.isub, 1) := by decide +kernel
theorem dX10_spans_101 : decode cX10_spans 101 = .ok (.i2l, 1) := by decide +kernel
theorem dX10_spans_102 : decode cX10_spans 102 = .ok (.lmul, 1) := by decide +kernel
theorem dX10_spans_103 : decode cX10_spans 103 = .ok (.lcmp, 1) := by decide +kernel
theorem dX10_spans_104 : decode cX10_spans 104 = .ok (.ifCond .le 26, 3) := by decide +kernel
theorem dX10_spans_107 : decode cX10_spans 107 = .ok (.aload_n 0, 1) := by decide +kernel
theorem dX10_spans_108 : decode cX10_spans 108 = .ok (.getfield 13, 3) := by decide +kernel
theorem dX10_spans_111 : decode cX10_spans 111 = .ok (.iconst 0, 1) := by decide +kernel
theorem dX10_spans_112 : decode cX10_spans 112 = .ok (.iload 5, 2) := by decide +kernel
theorem dX10_spans_114 : decode cX10_spans 114 = .ok (.iconst 1, 1) := by decide +kernel
theorem dX10_spans_115 : decode cX10_spans 115 = .ok (.isub, 1) := by decide +kernel
theorem dX10_spans_116 : decode cX10_spans 116 = .ok (.i2l, 1) := by decide +kernel
theorem dX10_spans_117 : decode cX10_spans 117 = .ok (.lastore, 1) := by decide +kernel
theorem dX10_spans_118 : decode cX10_spans 118 = .ok (.aload_n 0, 1) := by decide +kernel
theorem dX10_spans_119 : decode cX10_spans 119 = .ok (.getfield 13, 3) := by decide +kernel
theorem dX10_spans_122 : decode cX10_spans 122 = .ok (.iconst 1, 1) := by decide +kernel
theorem dX10_spans_123 : decode cX10_spans 123 = .ok (.iload 6, 2) := by decide +kernel
theorem dX10_spans_125 : decode cX10_spans 125 = .ok (.iload 4, 2) := by decide +kernel
theorem dX10_spans_127 : decode cX10_spans 127 = .ok (.isub, 1) := by decide +kernel
theorem dX10_spans_128 : decode cX10_spans 128 = .ok (.i2l, 1) := by decide +kernel
theorem dX10_spans_129 : decode cX10_spans 129 = .ok (.lastore, 1) := by decide +kernel
theorem dX10_spans_130 : decode cX10_spans 130 = .ok (.iload_n 3, 1) := by decide +kernel
theorem dX10_spans_131 : decode cX10_spans 131 = .ok (.ifCond .ne 32, 3) := by decide +kernel
theorem dX10_spans_134 : decode cX10_spans 134 = .ok (.iload 5, 2) := by decide +kernel
theorem dX10_spans_136 : decode cX10_spans 136 = .ok (.iconst 1, 1) := by decide +kernel
theorem dX10_spans_137 : decode cX10_spans 137 = .ok (.iadd, 1) := by decide +kernel
theorem dX10_spans_138 : decode cX10_spans 138 = .ok (.i2l, 1) := by decide +kernel
theorem dX10_spans_139 : decode cX10_spans 139 = .ok (.aload_n 0, 1) := by decide +kernel
theorem dX10_spans_140 : decode cX10_spans 140 = .ok (.getfield 17, 3) := by decide +kernel
theorem dX10_spans_143 : decode cX10_spans 143 = .ok (.iconst 1, 1) := by decide +kernel
theorem dX10_spans_144 : decode cX10_spans 144 = .ok (.laload, 1) := by decide +kernel
theorem dX10_spans_145 : decode cX10_spans 145 = .ok (.lmul, 1) := by decide +kernel
theorem dX10_spans_146 : decode cX10_spans 146 = .ok (.aload_n 0, 1) := by decide +kernel
theorem dX10_spans_147 : decode cX10_spans 147 = .ok (.getfield 17, 3) := by decide +kernel
theorem dX10_spans_150 : decode cX10_spans 150 = .ok (.iconst 0, 1) := by decide +kernel
theorem dX10_spans_151 : decode cX10_spans 151 = .ok (.laload, 1) := by decide +kernel
theorem dX10_spans_152 : decode cX10_spans 152 = .ok (.iload 6, 2) := by decide +kernel
theorem dX10_spans_154 : decode cX10_spans 154 = .ok (.iload 4, 2) := by decide +kernel
theorem dX10_spans_156 : decode cX10_spans 156 = .ok (.isub, 1) := by decide +kernel
theorem dX10_spans_157 : decode cX10_spans 157 = .ok (.i2l, 1) := by decide +kernel
theorem dX10_spans_158 : decode cX10_spans 158 = .ok (.lmul, 1) := by decide +kernel
theorem dX10_spans_159 : decode cX10_spans 159 = .ok (.lcmp, 1) := by decide +kernel
theorem dX10_spans_160 : decode cX10_spans 160 = .ok (.ifCond .ge 26, 3) := by decide +kernel
theorem dX10_spans_163 : decode cX10_spans 163 = .ok (.aload_n 0, 1) := by decide +kernel
theorem dX10_spans_164 : decode cX10_spans 164 = .ok (.getfield 17, 3) := by decide +kernel
theorem dX10_spans_167 : decode cX10_spans 167 = .ok (.iconst 0, 1) := by decide +kernel
theorem dX10_spans_168 : decode cX10_spans 168 = .ok (.iload 5, 2) := by decide +kernel
theorem dX10_spans_170 : decode cX10_spans 170 = .ok (.iconst 1, 1) := by decide +kernel
theorem dX10_spans_171 : decode cX10_spans 171 = .ok (.iadd, 1) := by decide +kernel
theorem dX10_spans_172 : decode cX10_spans 172 = .ok (.i2l, 1) := by decide +kernel
theorem dX10_spans_173 : decode cX10_spans 173 = .ok (.lastore, 1) := by decide +kernel
theorem dX10_spans_174 : decode cX10_spans 174 = .ok (.aload_n 0, 1) := by decide +kernel
theorem dX10_spans_175 : decode cX10_spans 175 = .ok (.getfield 17, 3) := by decide +kernel
theorem dX10_spans_178 : decode cX10_spans 178 = .ok (.iconst 1, 1) := by decide +kernel
theorem dX10_spans_179 : decode cX10_spans 179 = .ok (.iload 6, 2) := by decide +kernel
theorem dX10_spans_181 : decode cX10_spans 181 = .ok (.iload 4, 2) := by decide +kernel
theorem dX10_spans_183 : decode cX10_spans 183 = .ok (.isub, 1) := by decide +kernel
theorem dX10_spans_184 : decode cX10_spans 184 = .ok (.i2l, 1) := by decide +kernel
theorem dX10_spans_185 : decode cX10_spans 185 = .ok (.lastore, 1) := by decide +kernel
theorem dX10_spans_186 : decode cX10_spans 186 = .ok (.iconst 0, 1) := by decide +kernel
theorem dX10_spans_187 : decode cX10_spans 187 = .ok (.istore_n 3, 1) := by decide +kernel
theorem dX10_spans_188 : decode cX10_spans 188 = .ok (.iinc 6 1, 3) := by decide +kernel
theorem dX10_spans_191 : decode cX10_spans 191 = .ok (.goto (-139), 3) := by decide +kernel
theorem dX10_spans_194 : decode cX10_spans 194 = .ok (.iinc 4 1, 3) := by decide +kernel
theorem dX10_spans_197 : decode cX10_spans 197 = .ok (.goto (-160), 3) := by decide +kernel
theorem dX10_spans_200 : decode cX10_spans 200 = .ok (.aload_n 0, 1) := by decide +kernel
theorem dX10_spans_201 : decode cX10_spans 201 = .ok (.getfield 13, 3) := by decide +kernel
theorem dX10_spans_204 : decode cX10_spans 204 = .ok (.iconst 0, 1) := by decide +kernel
theorem dX10_spans_205 : decode cX10_spans 205 = .ok (.laload, 1) := by decide +kernel
theorem dX10_spans_206 : decode cX10_spans 206 = .ok (.aload_n 0, 1) := by decide +kernel
theorem dX10_spans_207 : decode cX10_spans 207 = .ok (.getfield 17, 3) := by decide +kernel
theorem dX10_spans_210 : decode cX10_spans 210 = .ok (.iconst 1, 1) := by decide +kernel
theorem dX10_spans_211 : decode cX10_spans 211 = .ok (.laload, 1) := by decide +kernel
theorem dX10_spans_212 : decode cX10_spans 212 = .ok (.lmul, 1) := by decide +kernel
theorem dX10_spans_213 : decode cX10_spans 213 = .ok (.aload_n 0, 1) := by decide +kernel
theorem dX10_spans_214 : decode cX10_spans 214 = .ok (.getfield 17, 3) := by decide +kernel
theorem dX10_spans_217 : decode cX10_spans 217 = .ok (.iconst 0, 1) := by decide +kernel
theorem dX10_spans_218 : decode cX10_spans 218 = .ok (.laload, 1) := by decide +kernel
theorem dX10_spans_219 : decode cX10_spans 219 = .ok (.aload_n 0, 1) := by decide +kernel
theorem dX10_spans_220 : decode cX10_spans 220 = .ok (.getfield 13, 3) := by decide +kernel
theorem dX10_spans_223 : decode cX10_spans 223 = .ok (.iconst 1, 1) := by decide +kernel
theorem dX10_spans_224 : decode cX10_spans 224 = .ok (.laload, 1) := by decide +kernel
theorem dX10_spans_225 : decode cX10_spans 225 = .ok (.lmul, 1) := by decide +kernel
theorem dX10_spans_226 : decode cX10_spans 226 = .ok (.lcmp, 1) := by decide +kernel
theorem dX10_spans_227 : decode cX10_spans 227 = .ok (.ifCond .ge 7, 3) := by decide +kernel
theorem dX10_spans_230 : decode cX10_spans 230 = .ok (.iconst 1, 1) := by decide +kernel
theorem dX10_spans_231 : decode cX10_spans 231 = .ok (.goto 4, 3) := by decide +kernel
theorem dX10_spans_234 : decode cX10_spans 234 = .ok (.iconst 0, 1) := by decide +kernel
theorem dX10_spans_235 : decode cX10_spans 235 = .ok (.ireturn, 1) := by decide +kernel
set_option maxRecDepth 20000 in
theorem ggX10_isStraight_X10_isSo : GoodIn wsX10_isStraight wsX10_isSo := goodIn_r _ [5, 6, 15, 16, 17, 18, 19, 20, 21, 22, 23, 24, 25, 26, 27, 28, 29, 30, 31, 32] rfl (by decide +kernel)
set_option maxRecDepth 20000 in
theorem gX10_isStraight_X10_isSo : GoodIn wsX10_isStraight (wsV RX10 97 RX10 yX10_isSo wsX10_isSo) := goodIn_app (goodIn_of _ (by decide +kernel)) ggX10_isStraight_X10_isSo
set_option maxRecDepth 20000 in
theorem ggX10_isStraight_X10_spans : GoodIn wsX10_isStraight wsX10_spans := goodIn_r _ [10, 11, 12, 13, 14, 6, 15, 16, 17, 18, 19, 20, 21, 22, 23, 24, 25, 26, 27, 28, 29, 30, 31, 32] rfl (by decide +kernel)
set_option maxRecDepth 20000 in
theorem gX10_isStraight_X10_spans : GoodIn wsX10_isStraight (wsV RX10 101 RX10 yX10_spans wsX10_spans) := goodIn_app (goodIn_of _ (by decide +kernel)) ggX10_isStraight_X10_spans
theorem dX10_isStraight_0 : decode cX10_isStraight 0 = .ok (.aload_n 0, 1) := by decide +kernel
theorem dX10_isStraight_1 : decode cX10_isStraight 1 = .ok (.iload_n 1, 1) := by decide +kernel
theorem dX10_isStraight_2 : decode cX10_isStraight 2 = .ok (.iload_n 2, 1) := by decide +kernel
theorem dX10_isStraight_3 : decode cX10_isStraight 3 = .ok (.invokevirtual 97, 3) := by decide +kernel
theorem dX10_isStraight_6 : decode cX10_isStraight 6 = .ok (.ifCond .eq 16, 3) := by decide +kernel
theorem dX10_isStraight_9 : decode cX10_isStraight 9 = .ok (.aload_n 0, 1) := by decide +kernel
theorem dX10_isStraight_10 : decode cX10_isStraight 10 = .ok (.iload_n 1, 1) := by decide +kernel
theorem dX10_isStraight_11 : decode cX10_isStraight 11 = .ok (.iload_n 2, 1) := by decide +kernel
theorem dX10_isStraight_12 : decode cX10_isStraight 12 = .ok (.invokevirtual 101, 3) := by decide +kernel
theorem dX10_isStraight_15 : decode cX10_isStraight 15 = .ok (.ifCond .eq 7, 3) := by decide +kernel
theorem dX10_isStraight_18 : decode cX10_isStraight 18 = .ok (.iconst 1, 1) := by decide +kernel
theorem dX10_isStraight_19 : decode cX10_isStraight 19 = .ok (.goto 4, 3) := by decide +kernel
theorem dX10_isStraight_22 : decode cX10_isStraight 22 = .ok (.iconst 0, 1) := by decide +kernel
theorem dX10_isStraight_23 : decode cX10_isStraight 23 = .ok (.ireturn, 1) := by decide +kernel
set_option maxRecDepth 20000 in
theorem ggX10_noPiece_X10_noPlace : GoodIn wsX10_noPiece wsX10_noPlace := goodIn_r _ [5, 6, 7, 8, 4, 9, 10, 11, 12, 13, 14, 15, 16, 17, 18, 19, 20, 21, 22, 23, 24, 25, 26, 27] rfl (by decide +kernel)
set_option maxRecDepth 20000 in
theorem gX10_noPiece_X10_noPlace : GoodIn wsX10_noPiece (wsV RX10 73 RX10 yX10_noPlace wsX10_noPlace) := goodIn_app (goodIn_of _ (by decide +kernel)) ggX10_noPiece_X10_noPlace
theorem dX10_noPiece_0 : decode cX10_noPiece 0 = .ok (.aload_n 0, 1) := by decide +kernel
theorem dX10_noPiece_1 : decode cX10_noPiece 1 = .ok (.iload_n 1, 1) := by decide +kernel
theorem dX10_noPiece_2 : decode cX10_noPiece 2 = .ok (.invokevirtual 73, 3) := by decide +kernel
theorem dX10_noPiece_5 : decode cX10_noPiece 5 = .ok (.ifCond .ne 11, 3) := by decide +kernel
theorem dX10_noPiece_8 : decode cX10_noPiece 8 = .ok (.aload_n 0, 1) := by decide +kernel
theorem dX10_noPiece_9 : decode cX10_noPiece 9 = .ok (.iload_n 2, 1) := by decide +kernel
theorem dX10_noPiece_10 : decode cX10_noPiece 10 = .ok (.invokevirtual 73, 3) := by decide +kernel
theorem dX10_noPiece_13 : decode cX10_noPiece 13 = .ok (.ifCond .eq 9, 3) := by decide +kernel
theorem dX10_noPiece_16 : decode cX10_noPiece 16 = .ok (.sipush (-1001), 3) := by decide +kernel
theorem dX10_noPiece_19 : decode cX10_noPiece 19 = .ok (.goto 15, 3) := by decide +kernel
theorem dX10_noPiece_22 : decode cX10_noPiece 22 = .ok (.iload_n 2, 1) := by decide +kernel
theorem dX10_noPiece_23 : decode cX10_noPiece 23 = .ok (.iload_n 1, 1) := by decide +kernel
theorem dX10_noPiece_24 : decode cX10_noPiece 24 = .ok (.if_icmp .ge 9, 3) := by decide +kernel
theorem dX10_noPiece_27 : decode cX10_noPiece 27 = .ok (.sipush (-1002), 3) := by decide +kernel
theorem dX10_noPiece_30 : decode cX10_noPiece 30 = .ok (.goto 4, 3) := by decide +kernel
theorem dX10_noPiece_33 : decode cX10_noPiece 33 = .ok (.iconst 0, 1) := by decide +kernel
theorem dX10_noPiece_34 : decode cX10_noPiece 34 = .ok (.ireturn, 1) := by decide +kernel
set_option maxRecDepth 20000 in
theorem ggX10_straight_X10_noPiece : GoodIn wsX10_straight wsX10_noPiece := goodIn_r _ [6, 7, 8, 9, 5, 10, 11, 12, 13, 14, 32, 33, 34, 35, 36, 37, 38, 39, 40, 41, 42, 43, 44, 45, 46, 47, 48, 49] rfl (by decide +kernel)
set_option maxRecDepth 20000 in
theorem gX10_straight_X10_noPiece : GoodIn wsX10_straight (wsV RX10 104 RX10 yX10_noPiece wsX10_noPiece) := goodIn_app (goodIn_of _ (by decide +kernel)) ggX10_straight_X10_noPiece
set_option maxRecDepth 20000 in
theorem ggX10_straight_X10_isStraight : GoodIn wsX10_straight wsX10_isStraight := goodIn_r _ [18, 19, 20, 21, 5, 22, 23, 24, 25, 26, 27, 28, 29, 30, 31, 32, 33, 34, 35, 36, 37, 38, 39, 40, 41, 42, 43, 44, 45, 46, 47, 48, 49] rfl (by decide +kernel)
set_option maxRecDepth 20000 in
theorem gX10_straight_X10_isStraight : GoodIn wsX10_straight (wsV RX10 107 RX10 yX10_isStraight wsX10_isStraight) := goodIn_app (goodIn_of _ (by decide +kernel)) ggX10_straight_X10_isStraight
theorem dX10_straight_0 : decode cX10_straight 0 = .ok (.aload_n 0, 1) := by decide +kernel
theorem dX10_straight_1 : decode cX10_straight 1 = .ok (.iconst 0, 1) := by decide +kernel
theorem dX10_straight_2 : decode cX10_straight 2 = .ok (.putfield 52, 3) := by decide +kernel
theorem dX10_straight_5 : decode cX10_straight 5 = .ok (.aload_n 0, 1) := by decide +kernel
theorem dX10_straight_6 : decode cX10_straight 6 = .ok (.iload_n 1, 1) := by decide +kernel
theorem dX10_straight_7 : decode cX10_straight 7 = .ok (.iload_n 2, 1) := by decide +kernel
theorem dX10_straight_8 : decode cX10_straight 8 = .ok (.invokevirtual 104, 3) := by decide +kernel
theorem dX10_straight_11 : decode cX10_straight 11 = .ok (.istore_n 3, 1) := by decide +kernel
theorem dX10_straight_12 : decode cX10_straight 12 = .ok (.iload_n 3, 1) := by decide +kernel
theorem dX10_straight_13 : decode cX10_straight 13 = .ok (.ifCond .eq 7, 3) := by decide +kernel
theorem dX10_straight_16 : decode cX10_straight 16 = .ok (.iload_n 3, 1) := by decide +kernel
theorem dX10_straight_17 : decode cX10_straight 17 = .ok (.goto 17, 3) := by decide +kernel
theorem dX10_straight_20 : decode cX10_straight 20 = .ok (.aload_n 0, 1) := by decide +kernel
theorem dX10_straight_21 : decode cX10_straight 21 = .ok (.iload_n 1, 1) := by decide +kernel
theorem dX10_straight_22 : decode cX10_straight 22 = .ok (.iload_n 2, 1) := by decide +kernel
theorem dX10_straight_23 : decode cX10_straight 23 = .ok (.invokevirtual 107, 3) := by decide +kernel
theorem dX10_straight_26 : decode cX10_straight 26 = .ok (.ifCond .eq 7, 3) := by decide +kernel
theorem dX10_straight_29 : decode cX10_straight 29 = .ok (.iconst 1, 1) := by decide +kernel
theorem dX10_straight_30 : decode cX10_straight 30 = .ok (.goto 4, 3) := by decide +kernel
theorem dX10_straight_33 : decode cX10_straight 33 = .ok (.iconst 0, 1) := by decide +kernel
theorem dX10_straight_34 : decode cX10_straight 34 = .ok (.ireturn, 1) := by decide +kernel
theorem dX10_told_0 : decode cX10_told 0 = .ok (.lload_n 0, 1) := by decide +kernel
theorem dX10_told_1 : decode cX10_told 1 = .ok (.lconst 0, 1) := by decide +kernel
theorem dX10_told_2 : decode cX10_told 2 = .ok (.lcmp, 1) := by decide +kernel
theorem dX10_told_3 : decode cX10_told 3 = .ok (.ifCond .ge 8, 3) := by decide +kernel
theorem dX10_told_6 : decode cX10_told 6 = .ok (.lload_n 0, 1) := by decide +kernel
theorem dX10_told_7 : decode cX10_told 7 = .ok (.lneg, 1) := by decide +kernel
theorem dX10_told_8 : decode cX10_told 8 = .ok (.goto 4, 3) := by decide +kernel
theorem dX10_told_11 : decode cX10_told 11 = .ok (.lload_n 0, 1) := by decide +kernel
theorem dX10_told_12 : decode cX10_told 12 = .ok (.lstore 5, 2) := by decide +kernel
theorem dX10_told_14 : decode cX10_told 14 = .ok (.lload_n 2, 1) := by decide +kernel
theorem dX10_told_15 : decode cX10_told 15 = .ok (.lstore 7, 2) := by decide +kernel
theorem dX10_told_17 : decode cX10_told 17 = .ok (.lload 7, 2) := by decide +kernel
theorem dX10_told_19 : decode cX10_told 19 = .ok (.lconst 0, 1) := by decide +kernel
theorem dX10_told_20 : decode cX10_told 20 = .ok (.lcmp, 1) := by decide +kernel
theorem dX10_told_21 : decode cX10_told 21 = .ok (.ifCond .eq 21, 3) := by decide +kernel
theorem dX10_told_24 : decode cX10_told 24 = .ok (.lload 5, 2) := by decide +kernel
theorem dX10_told_26 : decode cX10_told 26 = .ok (.lload 7, 2) := by decide +kernel
theorem dX10_told_28 : decode cX10_told 28 = .ok (.lrem, 1) := by decide +kernel
theorem dX10_told_29 : decode cX10_told 29 = .ok (.lstore 9, 2) := by decide +kernel
theorem dX10_told_31 : decode cX10_told 31 = .ok (.lload 7, 2) := by decide +kernel
theorem dX10_told_33 : decode cX10_told 33 = .ok (.lstore 5, 2) := by decide +kernel
theorem dX10_told_35 : decode cX10_told 35 = .ok (.lload 9, 2) := by decide +kernel
theorem dX10_told_37 : decode cX10_told 37 = .ok (.lstore 7, 2) := by decide +kernel
theorem dX10_told_39 : decode cX10_told 39 = .ok (.goto (-22), 3) := by decide +kernel
theorem dX10_told_42 : decode cX10_told 42 = .ok (.iload 4, 2) := by decide +kernel
theorem dX10_told_44 : decode cX10_told 44 = .ok (.ifCond .eq 10, 3) := by decide +kernel
theorem dX10_told_47 : decode cX10_told 47 = .ok (.lload_n 0, 1) := by decide +kernel
theorem dX10_told_48 : decode cX10_told 48 = .ok (.lload 5, 2) := by decide +kernel
theorem dX10_told_50 : decode cX10_told 50 = .ok (.ldiv, 1) := by decide +kernel
theorem dX10_told_51 : decode cX10_told 51 = .ok (.goto 7, 3) := by decide +kernel
theorem dX10_told_54 : decode cX10_told 54 = .ok (.lload_n 2, 1) := by decide +kernel
theorem dX10_told_55 : decode cX10_told 55 = .ok (.lload 5, 2) := by decide +kernel
theorem dX10_told_57 : decode cX10_told 57 = .ok (.ldiv, 1) := by decide +kernel
theorem dX10_told_58 : decode cX10_told 58 = .ok (.l2i, 1) := by decide +kernel
theorem dX10_told_59 : decode cX10_told 59 = .ok (.ireturn, 1) := by decide +kernel
set_option maxRecDepth 20000 in
theorem ggX10_span_X10_noPiece : GoodIn wsX10_span wsX10_noPiece := goodIn_r _ [8, 9, 10, 11, 7, 12, 13, 14, 15, 16, 31, 32, 33, 34, 35, 36, 37, 38, 39, 40, 41, 42, 43, 44, 45, 46, 47, 48] rfl (by decide +kernel)
set_option maxRecDepth 20000 in
theorem gX10_span_X10_noPiece : GoodIn wsX10_span (wsV RX10 104 RX10 yX10_noPiece wsX10_noPiece) := goodIn_app (goodIn_of _ (by decide +kernel)) ggX10_span_X10_noPiece
set_option maxRecDepth 20000 in
theorem ggX10_span_X10_isSo : GoodIn wsX10_span wsX10_isSo := goodIn_r _ [20, 21, 31, 32, 33, 34, 35, 36, 37, 38, 39, 40, 41, 42, 43, 44, 45, 46, 47, 48] rfl (by decide +kernel)
set_option maxRecDepth 20000 in
theorem gX10_span_X10_isSo : GoodIn wsX10_span (wsV RX10 97 RX10 yX10_isSo wsX10_isSo) := goodIn_app (goodIn_of _ (by decide +kernel)) ggX10_span_X10_isSo
set_option maxRecDepth 20000 in
theorem ggX10_span_X10_spans : GoodIn wsX10_span wsX10_spans := goodIn_r _ [25, 3, 26, 2, 27, 21, 31, 32, 33, 34, 35, 36, 37, 38, 39, 40, 41, 42, 43, 44, 45, 46, 47, 48] rfl (by decide +kernel)
set_option maxRecDepth 20000 in
theorem gX10_span_X10_spans : GoodIn wsX10_span (wsV RX10 101 RX10 yX10_spans wsX10_spans) := goodIn_app (goodIn_of _ (by decide +kernel)) ggX10_span_X10_spans
set_option maxRecDepth 20000 in
theorem ggX10_span_X10_told : GoodIn wsX10_span wsX10_told := goodIn_r _ [30] rfl (by decide +kernel)
set_option maxRecDepth 20000 in
theorem gX10_span_X10_told : GoodIn wsX10_span (va_wsS RX10 110 yX10_told wsX10_told) := goodIn_app (goodIn_of _ (by decide +kernel)) ggX10_span_X10_told
theorem dX10_span_0 : decode cX10_span 0 = .ok (.aload_n 0, 1) := by decide +kernel
theorem dX10_span_1 : decode cX10_span 1 = .ok (.iconst 0, 1) := by decide +kernel
theorem dX10_span_2 : decode cX10_span 2 = .ok (.putfield 52, 3) := by decide +kernel
theorem dX10_span_5 : decode cX10_span 5 = .ok (.aload_n 0, 1) := by decide +kernel
theorem dX10_span_6 : decode cX10_span 6 = .ok (.iload_n 1, 1) := by decide +kernel
theorem dX10_span_7 : decode cX10_span 7 = .ok (.iload_n 2, 1) := by decide +kernel
theorem dX10_span_8 : decode cX10_span 8 = .ok (.invokevirtual 104, 3) := by decide +kernel
theorem dX10_span_11 : decode cX10_span 11 = .ok (.istore 5, 2) := by decide +kernel
theorem dX10_span_13 : decode cX10_span 13 = .ok (.iload 5, 2) := by decide +kernel
theorem dX10_span_15 : decode cX10_span 15 = .ok (.ifCond .eq 6, 3) := by decide +kernel
theorem dX10_span_18 : decode cX10_span 18 = .ok (.iload 5, 2) := by decide +kernel
theorem dX10_span_20 : decode cX10_span 20 = .ok (.ireturn, 1) := by decide +kernel
theorem dX10_span_21 : decode cX10_span 21 = .ok (.aload_n 0, 1) := by decide +kernel
theorem dX10_span_22 : decode cX10_span 22 = .ok (.iload_n 1, 1) := by decide +kernel
theorem dX10_span_23 : decode cX10_span 23 = .ok (.iload_n 2, 1) := by decide +kernel
theorem dX10_span_24 : decode cX10_span 24 = .ok (.invokevirtual 97, 3) := by decide +kernel
theorem dX10_span_27 : decode cX10_span 27 = .ok (.ifCond .ne 7, 3) := by decide +kernel
theorem dX10_span_30 : decode cX10_span 30 = .ok (.sipush (-1003), 3) := by decide +kernel
theorem dX10_span_33 : decode cX10_span 33 = .ok (.ireturn, 1) := by decide +kernel
theorem dX10_span_34 : decode cX10_span 34 = .ok (.aload_n 0, 1) := by decide +kernel
theorem dX10_span_35 : decode cX10_span 35 = .ok (.iload_n 1, 1) := by decide +kernel
theorem dX10_span_36 : decode cX10_span 36 = .ok (.iload_n 2, 1) := by decide +kernel
theorem dX10_span_37 : decode cX10_span 37 = .ok (.invokevirtual 101, 3) := by decide +kernel
theorem dX10_span_40 : decode cX10_span 40 = .ok (.pop, 1) := by decide +kernel
theorem dX10_span_41 : decode cX10_span 41 = .ok (.iload_n 3, 1) := by decide +kernel
theorem dX10_span_42 : decode cX10_span 42 = .ok (.ifCond .eq 23, 3) := by decide +kernel
theorem dX10_span_45 : decode cX10_span 45 = .ok (.aload_n 0, 1) := by decide +kernel
theorem dX10_span_46 : decode cX10_span 46 = .ok (.getfield 17, 3) := by decide +kernel
theorem dX10_span_49 : decode cX10_span 49 = .ok (.iconst 0, 1) := by decide +kernel
theorem dX10_span_50 : decode cX10_span 50 = .ok (.laload, 1) := by decide +kernel
theorem dX10_span_51 : decode cX10_span 51 = .ok (.aload_n 0, 1) := by decide +kernel
theorem dX10_span_52 : decode cX10_span 52 = .ok (.getfield 17, 3) := by decide +kernel
theorem dX10_span_55 : decode cX10_span 55 = .ok (.iconst 1, 1) := by decide +kernel
theorem dX10_span_56 : decode cX10_span 56 = .ok (.laload, 1) := by decide +kernel
theorem dX10_span_57 : decode cX10_span 57 = .ok (.iload 4, 2) := by decide +kernel
theorem dX10_span_59 : decode cX10_span 59 = .ok (.invokestatic 110, 3) := by decide +kernel
theorem dX10_span_62 : decode cX10_span 62 = .ok (.goto 20, 3) := by decide +kernel
theorem dX10_span_65 : decode cX10_span 65 = .ok (.aload_n 0, 1) := by decide +kernel
theorem dX10_span_66 : decode cX10_span 66 = .ok (.getfield 13, 3) := by decide +kernel
theorem dX10_span_69 : decode cX10_span 69 = .ok (.iconst 0, 1) := by decide +kernel
theorem dX10_span_70 : decode cX10_span 70 = .ok (.laload, 1) := by decide +kernel
theorem dX10_span_71 : decode cX10_span 71 = .ok (.aload_n 0, 1) := by decide +kernel
theorem dX10_span_72 : decode cX10_span 72 = .ok (.getfield 13, 3) := by decide +kernel
theorem dX10_span_75 : decode cX10_span 75 = .ok (.iconst 1, 1) := by decide +kernel
theorem dX10_span_76 : decode cX10_span 76 = .ok (.laload, 1) := by decide +kernel
theorem dX10_span_77 : decode cX10_span 77 = .ok (.iload 4, 2) := by decide +kernel
theorem dX10_span_79 : decode cX10_span 79 = .ok (.invokestatic 110, 3) := by decide +kernel
theorem dX10_span_82 : decode cX10_span 82 = .ok (.ireturn, 1) := by decide +kernel
set_option maxRecDepth 20000 in
theorem ggX10_plain_X10_noPiece : GoodIn wsX10_plain wsX10_noPiece := goodIn_r _ [8, 9, 10, 11, 7, 12, 13, 14, 15, 16, 32, 33, 34, 35, 36, 37, 38, 39, 40, 41, 42, 43, 44, 45, 46, 47, 48, 49] rfl (by decide +kernel)
set_option maxRecDepth 20000 in
theorem gX10_plain_X10_noPiece : GoodIn wsX10_plain (wsV RX10 104 RX10 yX10_noPiece wsX10_noPiece) := goodIn_app (goodIn_of _ (by decide +kernel)) ggX10_plain_X10_noPiece
set_option maxRecDepth 20000 in
theorem ggX10_plain_X10_isStraight : GoodIn wsX10_plain wsX10_isStraight := goodIn_r _ [20, 21, 22, 23, 7, 24, 25, 26, 27, 28, 29, 2, 30, 3, 31, 32, 33, 34, 35, 36, 37, 38, 39, 40, 41, 42, 43, 44, 45, 46, 47, 48, 49] rfl (by decide +kernel)
set_option maxRecDepth 20000 in
theorem gX10_plain_X10_isStraight : GoodIn wsX10_plain (wsV RX10 107 RX10 yX10_isStraight wsX10_isStraight) := goodIn_app (goodIn_of _ (by decide +kernel)) ggX10_plain_X10_isStraight
theorem dX10_plain_0 : decode cX10_plain 0 = .ok (.aload_n 0, 1) := by decide +kernel
theorem dX10_plain_1 : decode cX10_plain 1 = .ok (.iconst 0, 1) := by decide +kernel
theorem dX10_plain_2 : decode cX10_plain 2 = .ok (.putfield 52, 3) := by decide +kernel
theorem dX10_plain_5 : decode cX10_plain 5 = .ok (.aload_n 0, 1) := by decide +kernel
theorem dX10_plain_6 : decode cX10_plain 6 = .ok (.iload_n 1, 1) := by decide +kernel
theorem dX10_plain_7 : decode cX10_plain 7 = .ok (.iload_n 2, 1) := by decide +kernel
theorem dX10_plain_8 : decode cX10_plain 8 = .ok (.invokevirtual 104, 3) := by decide +kernel
theorem dX10_plain_11 : decode cX10_plain 11 = .ok (.istore 4, 2) := by decide +kernel
theorem dX10_plain_13 : decode cX10_plain 13 = .ok (.iload 4, 2) := by decide +kernel
theorem dX10_plain_15 : decode cX10_plain 15 = .ok (.ifCond .eq 6, 3) := by decide +kernel
theorem dX10_plain_18 : decode cX10_plain 18 = .ok (.iload 4, 2) := by decide +kernel
theorem dX10_plain_20 : decode cX10_plain 20 = .ok (.ireturn, 1) := by decide +kernel
theorem dX10_plain_21 : decode cX10_plain 21 = .ok (.aload_n 0, 1) := by decide +kernel
theorem dX10_plain_22 : decode cX10_plain 22 = .ok (.iload_n 1, 1) := by decide +kernel
theorem dX10_plain_23 : decode cX10_plain 23 = .ok (.iload_n 2, 1) := by decide +kernel
theorem dX10_plain_24 : decode cX10_plain 24 = .ok (.invokevirtual 107, 3) := by decide +kernel
theorem dX10_plain_27 : decode cX10_plain 27 = .ok (.ifCond .ne 7, 3) := by decide +kernel
theorem dX10_plain_30 : decode cX10_plain 30 = .ok (.sipush (-1003), 3) := by decide +kernel
theorem dX10_plain_33 : decode cX10_plain 33 = .ok (.ireturn, 1) := by decide +kernel
theorem dX10_plain_34 : decode cX10_plain 34 = .ok (.iconst 1, 1) := by decide +kernel
theorem dX10_plain_35 : decode cX10_plain 35 = .ok (.istore 5, 2) := by decide +kernel
theorem dX10_plain_37 : decode cX10_plain 37 = .ok (.iload 5, 2) := by decide +kernel
theorem dX10_plain_39 : decode cX10_plain 39 = .ok (.sipush 1000, 3) := by decide +kernel
theorem dX10_plain_42 : decode cX10_plain 42 = .ok (.if_icmp .ge 85, 3) := by decide +kernel
theorem dX10_plain_45 : decode cX10_plain 45 = .ok (.iconst 0, 1) := by decide +kernel
theorem dX10_plain_46 : decode cX10_plain 46 = .ok (.istore 6, 2) := by decide +kernel
theorem dX10_plain_48 : decode cX10_plain 48 = .ok (.iload 6, 2) := by decide +kernel
theorem dX10_plain_50 : decode cX10_plain 50 = .ok (.iload 5, 2) := by decide +kernel
theorem dX10_plain_52 : decode cX10_plain 52 = .ok (.if_icmp .gt 69, 3) := by decide +kernel
theorem dX10_plain_55 : decode cX10_plain 55 = .ok (.aload_n 0, 1) := by decide +kernel
theorem dX10_plain_56 : decode cX10_plain 56 = .ok (.getfield 13, 3) := by decide +kernel
theorem dX10_plain_59 : decode cX10_plain 59 = .ok (.iconst 0, 1) := by decide +kernel
theorem dX10_plain_60 : decode cX10_plain 60 = .ok (.laload, 1) := by decide +kernel
theorem dX10_plain_61 : decode cX10_plain 61 = .ok (.iload 5, 2) := by decide +kernel
theorem dX10_plain_63 : decode cX10_plain 63 = .ok (.i2l, 1) := by decide +kernel
theorem dX10_plain_64 : decode cX10_plain 64 = .ok (.lmul, 1) := by decide +kernel
theorem dX10_plain_65 : decode cX10_plain 65 = .ok (.iload 6, 2) := by decide +kernel
theorem dX10_plain_67 : decode cX10_plain 67 = .ok (.i2l, 1) := by decide +kernel
theorem dX10_plain_68 : decode cX10_plain 68 = .ok (.aload_n 0, 1) := by decide +kernel
theorem dX10_plain_69 : decode cX10_plain 69 = .ok (.getfield 13, 3) := by decide +kernel
theorem dX10_plain_72 : decode cX10_plain 72 = .ok (.iconst 1, 1) := by decide +kernel
theorem dX10_plain_73 : decode cX10_plain 73 = .ok (.laload, 1) := by decide +kernel
theorem dX10_plain_74 : decode cX10_plain 74 = .ok (.lmul, 1) := by decide +kernel
theorem dX10_plain_75 : decode cX10_plain 75 = .ok (.lcmp, 1) := by decide +kernel
theorem dX10_plain_76 : decode cX10_plain 76 = .ok (.ifCond .ge 39, 3) := by decide +kernel
theorem dX10_plain_79 : decode cX10_plain 79 = .ok (.iload 6, 2) := by decide +kernel
theorem dX10_plain_81 : decode cX10_plain 81 = .ok (.i2l, 1) := by decide +kernel
theorem dX10_plain_82 : decode cX10_plain 82 = .ok (.aload_n 0, 1) := by decide +kernel
theorem dX10_plain_83 : decode cX10_plain 83 = .ok (.getfield 17, 3) := by decide +kernel
theorem dX10_plain_86 : decode cX10_plain 86 = .ok (.iconst 1, 1) := by decide +kernel
theorem dX10_plain_87 : decode cX10_plain 87 = .ok (.laload, 1) := by decide +kernel
theorem dX10_plain_88 : decode cX10_plain 88 = .ok (.lmul, 1) := by decide +kernel
theorem dX10_plain_89 : decode cX10_plain 89 = .ok (.aload_n 0, 1) := by decide +kernel
theorem dX10_plain_90 : decode cX10_plain 90 = .ok (.getfield 17, 3) := by decide +kernel
theorem dX10_plain_93 : decode cX10_plain 93 = .ok (.iconst 0, 1) := by decide +kernel
theorem dX10_plain_94 : decode cX10_plain 94 = .ok (.laload, 1) := by decide +kernel
theorem dX10_plain_95 : decode cX10_plain 95 = .ok (.iload 5, 2) := by decide +kernel
theorem dX10_plain_97 : decode cX10_plain 97 = .ok (.i2l, 1) := by decide +kernel
theorem dX10_plain_98 : decode cX10_plain 98 = .ok (.lmul, 1) := by decide +kernel
theorem dX10_plain_99 : decode cX10_plain 99 = .ok (.lcmp, 1) := by decide +kernel
theorem dX10_plain_100 : decode cX10_plain 100 = .ok (.ifCond .ge 15, 3) := by decide +kernel
theorem dX10_plain_103 : decode cX10_plain 103 = .ok (.iload_n 3, 1) := by decide +kernel
theorem dX10_plain_104 : decode cX10_plain 104 = .ok (.ifCond .eq 8, 3) := by decide +kernel
theorem dX10_plain_107 : decode cX10_plain 107 = .ok (.iload 6, 2) := by decide +kernel
theorem dX10_plain_109 : decode cX10_plain 109 = .ok (.goto 5, 3) := by decide +kernel
theorem dX10_plain_112 : decode cX10_plain 112 = .ok (.iload 5, 2) := by decide +kernel
theorem dX10_plain_114 : decode cX10_plain 114 = .ok (.ireturn, 1) := by decide +kernel
theorem dX10_plain_115 : decode cX10_plain 115 = .ok (.iinc 6 1, 3) := by decide +kernel
theorem dX10_plain_118 : decode cX10_plain 118 = .ok (.goto (-70), 3) := by decide +kernel
theorem dX10_plain_121 : decode cX10_plain 121 = .ok (.iinc 5 1, 3) := by decide +kernel
theorem dX10_plain_124 : decode cX10_plain 124 = .ok (.goto (-87), 3) := by decide +kernel
theorem dX10_plain_127 : decode cX10_plain 127 = .ok (.sipush (-999), 3) := by decide +kernel
theorem dX10_plain_130 : decode cX10_plain 130 = .ok (.ireturn, 1) := by decide +kernel
set_option maxRecDepth 20000 in
theorem ggX10_endOf_X10_isStraight : GoodIn wsX10_endOf wsX10_isStraight := goodIn_r _ [6, 7, 8, 9, 5, 10, 11, 12, 13, 14, 15, 16, 17, 18, 19, 20, 21, 22, 23, 24, 25, 26, 27, 28, 29, 30, 31, 32, 33, 34, 35, 36, 37] rfl (by decide +kernel)
set_option maxRecDepth 20000 in
theorem gX10_endOf_X10_isStraight : GoodIn wsX10_endOf (wsV RX10 107 RX10 yX10_isStraight wsX10_isStraight) := goodIn_app (goodIn_of _ (by decide +kernel)) ggX10_endOf_X10_isStraight
theorem dX10_endOf_0 : decode cX10_endOf 0 = .ok (.iload_n 1, 1) := by decide +kernel
theorem dX10_endOf_1 : decode cX10_endOf 1 = .ok (.istore_n 2, 1) := by decide +kernel
theorem dX10_endOf_2 : decode cX10_endOf 2 = .ok (.iload_n 2, 1) := by decide +kernel
theorem dX10_endOf_3 : decode cX10_endOf 3 = .ok (.aload_n 0, 1) := by decide +kernel
theorem dX10_endOf_4 : decode cX10_endOf 4 = .ok (.getfield 68, 3) := by decide +kernel
theorem dX10_endOf_7 : decode cX10_endOf 7 = .ok (.if_icmp .ge 20, 3) := by decide +kernel
theorem dX10_endOf_10 : decode cX10_endOf 10 = .ok (.aload_n 0, 1) := by decide +kernel
theorem dX10_endOf_11 : decode cX10_endOf 11 = .ok (.iload_n 1, 1) := by decide +kernel
theorem dX10_endOf_12 : decode cX10_endOf 12 = .ok (.iload_n 2, 1) := by decide +kernel
theorem dX10_endOf_13 : decode cX10_endOf 13 = .ok (.iconst 1, 1) := by decide +kernel
theorem dX10_endOf_14 : decode cX10_endOf 14 = .ok (.iadd, 1) := by decide +kernel
theorem dX10_endOf_15 : decode cX10_endOf 15 = .ok (.invokevirtual 107, 3) := by decide +kernel
theorem dX10_endOf_18 : decode cX10_endOf 18 = .ok (.ifCond .eq 9, 3) := by decide +kernel
theorem dX10_endOf_21 : decode cX10_endOf 21 = .ok (.iinc 2 1, 3) := by decide +kernel
theorem dX10_endOf_24 : decode cX10_endOf 24 = .ok (.goto (-22), 3) := by decide +kernel
theorem dX10_endOf_27 : decode cX10_endOf 27 = .ok (.iload_n 2, 1) := by decide +kernel
theorem dX10_endOf_28 : decode cX10_endOf 28 = .ok (.ireturn, 1) := by decide +kernel
set_option maxRecDepth 20000 in
theorem ggX10_longest_X10_endOf : GoodIn wsX10_longest wsX10_endOf := goodIn_r _ [7, 2, 8, 9, 10, 6, 11, 12, 13, 14, 15, 16, 17, 18, 19, 20, 21, 22, 23, 24, 25, 26, 27, 28, 29, 30, 31, 32, 33, 34, 35, 36, 37, 38, 39, 40, 41, 42] rfl (by decide +kernel)
set_option maxRecDepth 20000 in
theorem gX10_longest_X10_endOf : GoodIn wsX10_longest (wsV RX10 114 RX10 yX10_endOf wsX10_endOf) := goodIn_app (goodIn_of _ (by decide +kernel)) ggX10_longest_X10_endOf
theorem dX10_longest_0 : decode cX10_longest 0 = .ok (.aload_n 0, 1) := by decide +kernel
theorem dX10_longest_1 : decode cX10_longest 1 = .ok (.iconst 0, 1) := by decide +kernel
theorem dX10_longest_2 : decode cX10_longest 2 = .ok (.putfield 52, 3) := by decide +kernel
theorem dX10_longest_5 : decode cX10_longest 5 = .ok (.iconst 0, 1) := by decide +kernel
theorem dX10_longest_6 : decode cX10_longest 6 = .ok (.istore_n 2, 1) := by decide +kernel
theorem dX10_longest_7 : decode cX10_longest 7 = .ok (.iconst 0, 1) := by decide +kernel
theorem dX10_longest_8 : decode cX10_longest 8 = .ok (.istore_n 3, 1) := by decide +kernel
theorem dX10_longest_9 : decode cX10_longest 9 = .ok (.iconst 0, 1) := by decide +kernel
theorem dX10_longest_10 : decode cX10_longest 10 = .ok (.istore 4, 2) := by decide +kernel
theorem dX10_longest_12 : decode cX10_longest 12 = .ok (.iload 4, 2) := by decide +kernel
theorem dX10_longest_14 : decode cX10_longest 14 = .ok (.aload_n 0, 1) := by decide +kernel
theorem dX10_longest_15 : decode cX10_longest 15 = .ok (.getfield 68, 3) := by decide +kernel
theorem dX10_longest_18 : decode cX10_longest 18 = .ok (.if_icmp .ge 32, 3) := by decide +kernel
theorem dX10_longest_21 : decode cX10_longest 21 = .ok (.aload_n 0, 1) := by decide +kernel
theorem dX10_longest_22 : decode cX10_longest 22 = .ok (.iload 4, 2) := by decide +kernel
theorem dX10_longest_24 : decode cX10_longest 24 = .ok (.invokevirtual 114, 3) := by decide +kernel
theorem dX10_longest_27 : decode cX10_longest 27 = .ok (.iload 4, 2) := by decide +kernel
theorem dX10_longest_29 : decode cX10_longest 29 = .ok (.isub, 1) := by decide +kernel
theorem dX10_longest_30 : decode cX10_longest 30 = .ok (.istore 5, 2) := by decide +kernel
theorem dX10_longest_32 : decode cX10_longest 32 = .ok (.iload 5, 2) := by decide +kernel
theorem dX10_longest_34 : decode cX10_longest 34 = .ok (.iload_n 2, 1) := by decide +kernel
theorem dX10_longest_35 : decode cX10_longest 35 = .ok (.if_icmp .le 9, 3) := by decide +kernel
theorem dX10_longest_38 : decode cX10_longest 38 = .ok (.iload 5, 2) := by decide +kernel
theorem dX10_longest_40 : decode cX10_longest 40 = .ok (.istore_n 2, 1) := by decide +kernel
theorem dX10_longest_41 : decode cX10_longest 41 = .ok (.iload 4, 2) := by decide +kernel
theorem dX10_longest_43 : decode cX10_longest 43 = .ok (.istore_n 3, 1) := by decide +kernel
theorem dX10_longest_44 : decode cX10_longest 44 = .ok (.iinc 4 1, 3) := by decide +kernel
theorem dX10_longest_47 : decode cX10_longest 47 = .ok (.goto (-35), 3) := by decide +kernel
theorem dX10_longest_50 : decode cX10_longest 50 = .ok (.iload_n 1, 1) := by decide +kernel
theorem dX10_longest_51 : decode cX10_longest 51 = .ok (.ifCond .eq 7, 3) := by decide +kernel
theorem dX10_longest_54 : decode cX10_longest 54 = .ok (.iload_n 3, 1) := by decide +kernel
theorem dX10_longest_55 : decode cX10_longest 55 = .ok (.goto 4, 3) := by decide +kernel
theorem dX10_longest_58 : decode cX10_longest 58 = .ok (.iload_n 2, 1) := by decide +kernel
theorem dX10_longest_59 : decode cX10_longest 59 = .ok (.ireturn, 1) := by decide +kernel
set_option maxRecDepth 20000 in
theorem ggX10_pieces_X10_endOf : GoodIn wsX10_pieces wsX10_endOf := goodIn_r _ [7, 2, 8, 9, 10, 6, 11, 12, 13, 14, 15, 16, 17, 18, 19, 20, 21, 22, 23, 24, 25, 26, 27, 28, 29, 30, 31, 32, 33, 34, 35, 36, 37, 38, 39, 40, 41, 42] rfl (by decide +kernel)
set_option maxRecDepth 20000 in
theorem gX10_pieces_X10_endOf : GoodIn wsX10_pieces (wsV RX10 114 RX10 yX10_endOf wsX10_endOf) := goodIn_app (goodIn_of _ (by decide +kernel)) ggX10_pieces_X10_endOf
theorem dX10_pieces_0 : decode cX10_pieces 0 = .ok (.aload_n 0, 1) := by decide +kernel
theorem dX10_pieces_1 : decode cX10_pieces 1 = .ok (.iconst 0, 1) := by decide +kernel
theorem dX10_pieces_2 : decode cX10_pieces 2 = .ok (.putfield 52, 3) := by decide +kernel
theorem dX10_pieces_5 : decode cX10_pieces 5 = .ok (.iconst 0, 1) := by decide +kernel
theorem dX10_pieces_6 : decode cX10_pieces 6 = .ok (.istore_n 1, 1) := by decide +kernel
theorem dX10_pieces_7 : decode cX10_pieces 7 = .ok (.iconst 0, 1) := by decide +kernel
theorem dX10_pieces_8 : decode cX10_pieces 8 = .ok (.istore_n 2, 1) := by decide +kernel
theorem dX10_pieces_9 : decode cX10_pieces 9 = .ok (.iload_n 2, 1) := by decide +kernel
theorem dX10_pieces_10 : decode cX10_pieces 10 = .ok (.aload_n 0, 1) := by decide +kernel
theorem dX10_pieces_11 : decode cX10_pieces 11 = .ok (.getfield 68, 3) := by decide +kernel
theorem dX10_pieces_14 : decode cX10_pieces 14 = .ok (.if_icmp .ge 15, 3) := by decide +kernel
theorem dX10_pieces_17 : decode cX10_pieces 17 = .ok (.aload_n 0, 1) := by decide +kernel
theorem dX10_pieces_18 : decode cX10_pieces 18 = .ok (.iload_n 2, 1) := by decide +kernel
theorem dX10_pieces_19 : decode cX10_pieces 19 = .ok (.invokevirtual 114, 3) := by decide +kernel
theorem dX10_pieces_22 : decode cX10_pieces 22 = .ok (.istore_n 2, 1) := by decide +kernel
theorem dX10_pieces_23 : decode cX10_pieces 23 = .ok (.iinc 1 1, 3) := by decide +kernel
theorem dX10_pieces_26 : decode cX10_pieces 26 = .ok (.goto (-17), 3) := by decide +kernel
theorem dX10_pieces_29 : decode cX10_pieces 29 = .ok (.iload_n 1, 1) := by decide +kernel
theorem dX10_pieces_30 : decode cX10_pieces 30 = .ok (.ireturn, 1) := by decide +kernel
set_option maxRecDepth 20000 in
theorem ggX10_pieceEnd_X10_endOf : GoodIn wsX10_pieceEnd wsX10_endOf := goodIn_r _ [7, 2, 8, 9, 10, 6, 11, 12, 13, 14, 15, 16, 17, 18, 19, 20, 21, 22, 23, 24, 25, 26, 27, 28, 29, 30, 31, 32, 33, 34, 35, 36, 37, 38, 39, 40, 41, 42] rfl (by decide +kernel)
set_option maxRecDepth 20000 in
theorem gX10_pieceEnd_X10_endOf : GoodIn wsX10_pieceEnd (wsV RX10 114 RX10 yX10_endOf wsX10_endOf) := goodIn_app (goodIn_of _ (by decide +kernel)) ggX10_pieceEnd_X10_endOf
theorem dX10_pieceEnd_0 : decode cX10_pieceEnd 0 = .ok (.aload_n 0, 1) := by decide +kernel
theorem dX10_pieceEnd_1 : decode cX10_pieceEnd 1 = .ok (.iconst 0, 1) := by decide +kernel
theorem dX10_pieceEnd_2 : decode cX10_pieceEnd 2 = .ok (.putfield 52, 3) := by decide +kernel
theorem dX10_pieceEnd_5 : decode cX10_pieceEnd 5 = .ok (.iconst 0, 1) := by decide +kernel
theorem dX10_pieceEnd_6 : decode cX10_pieceEnd 6 = .ok (.istore_n 2, 1) := by decide +kernel
theorem dX10_pieceEnd_7 : decode cX10_pieceEnd 7 = .ok (.iconst 0, 1) := by decide +kernel
theorem dX10_pieceEnd_8 : decode cX10_pieceEnd 8 = .ok (.istore_n 3, 1) := by decide +kernel
theorem dX10_pieceEnd_9 : decode cX10_pieceEnd 9 = .ok (.iload_n 3, 1) := by decide +kernel
theorem dX10_pieceEnd_10 : decode cX10_pieceEnd 10 = .ok (.aload_n 0, 1) := by decide +kernel
theorem dX10_pieceEnd_11 : decode cX10_pieceEnd 11 = .ok (.getfield 68, 3) := by decide +kernel
theorem dX10_pieceEnd_14 : decode cX10_pieceEnd 14 = .ok (.if_icmp .ge 22, 3) := by decide +kernel
theorem dX10_pieceEnd_17 : decode cX10_pieceEnd 17 = .ok (.aload_n 0, 1) := by decide +kernel
theorem dX10_pieceEnd_18 : decode cX10_pieceEnd 18 = .ok (.iload_n 3, 1) := by decide +kernel
theorem dX10_pieceEnd_19 : decode cX10_pieceEnd 19 = .ok (.invokevirtual 114, 3) := by decide +kernel
theorem dX10_pieceEnd_22 : decode cX10_pieceEnd 22 = .ok (.istore_n 3, 1) := by decide +kernel
theorem dX10_pieceEnd_23 : decode cX10_pieceEnd 23 = .ok (.iload_n 2, 1) := by decide +kernel
theorem dX10_pieceEnd_24 : decode cX10_pieceEnd 24 = .ok (.iload_n 1, 1) := by decide +kernel
theorem dX10_pieceEnd_25 : decode cX10_pieceEnd 25 = .ok (.if_icmp .ne 5, 3) := by decide +kernel
theorem dX10_pieceEnd_28 : decode cX10_pieceEnd 28 = .ok (.iload_n 3, 1) := by decide +kernel
theorem dX10_pieceEnd_29 : decode cX10_pieceEnd 29 = .ok (.ireturn, 1) := by decide +kernel
theorem dX10_pieceEnd_30 : decode cX10_pieceEnd 30 = .ok (.iinc 2 1, 3) := by decide +kernel
theorem dX10_pieceEnd_33 : decode cX10_pieceEnd 33 = .ok (.goto (-24), 3) := by decide +kernel
theorem dX10_pieceEnd_36 : decode cX10_pieceEnd 36 = .ok (.sipush (-999), 3) := by decide +kernel
theorem dX10_pieceEnd_39 : decode cX10_pieceEnd 39 = .ok (.ireturn, 1) := by decide +kernel
theorem dX10_fields_0 : decode cX10_fields 0 = .ok (.aload_n 0, 1) := by decide +kernel
theorem dX10_fields_1 : decode cX10_fields 1 = .ok (.getfield 20, 3) := by decide +kernel
theorem dX10_fields_4 : decode cX10_fields 4 = .ok (.aload_n 0, 1) := by decide +kernel
theorem dX10_fields_5 : decode cX10_fields 5 = .ok (.getfield 24, 3) := by decide +kernel
theorem dX10_fields_8 : decode cX10_fields 8 = .ok (.imul, 1) := by decide +kernel
theorem dX10_fields_9 : decode cX10_fields 9 = .ok (.ireturn, 1) := by decide +kernel
set_option maxRecDepth 20000 in
theorem ggX10_noField_X10_fields : GoodIn wsX10_noField wsX10_fields := goodIn_r _ [5, 6, 7, 11, 12, 13, 14, 15, 16, 17, 18, 19, 20, 21, 22, 23, 24, 25, 26, 27, 28] rfl (by decide +kernel)
set_option maxRecDepth 20000 in
theorem gX10_noField_X10_fields : GoodIn wsX10_noField (wsV RX10 117 RX10 yX10_fields wsX10_fields) := goodIn_app (goodIn_of _ (by decide +kernel)) ggX10_noField_X10_fields
set_option maxRecDepth 20000 in
theorem ggX10_noField_X10_in : GoodIn wsX10_noField wsX10_in := goodIn_r _ [10] rfl (by decide +kernel)
set_option maxRecDepth 20000 in
theorem gX10_noField_X10_in : GoodIn wsX10_noField (va_wsS RX10 64 yX10_in wsX10_in) := goodIn_app (goodIn_of _ (by decide +kernel)) ggX10_noField_X10_in
theorem dX10_noField_0 : decode cX10_noField 0 = .ok (.iload_n 1, 1) := by decide +kernel
theorem dX10_noField_1 : decode cX10_noField 1 = .ok (.i2l, 1) := by decide +kernel
theorem dX10_noField_2 : decode cX10_noField 2 = .ok (.lconst 0, 1) := by decide +kernel
theorem dX10_noField_3 : decode cX10_noField 3 = .ok (.aload_n 0, 1) := by decide +kernel
theorem dX10_noField_4 : decode cX10_noField 4 = .ok (.invokevirtual 117, 3) := by decide +kernel
theorem dX10_noField_7 : decode cX10_noField 7 = .ok (.iconst 1, 1) := by decide +kernel
theorem dX10_noField_8 : decode cX10_noField 8 = .ok (.isub, 1) := by decide +kernel
theorem dX10_noField_9 : decode cX10_noField 9 = .ok (.i2l, 1) := by decide +kernel
theorem dX10_noField_10 : decode cX10_noField 10 = .ok (.invokestatic 64, 3) := by decide +kernel
theorem dX10_noField_13 : decode cX10_noField 13 = .ok (.ifCond .ne 7, 3) := by decide +kernel
theorem dX10_noField_16 : decode cX10_noField 16 = .ok (.iconst 1, 1) := by decide +kernel
theorem dX10_noField_17 : decode cX10_noField 17 = .ok (.goto 4, 3) := by decide +kernel
theorem dX10_noField_20 : decode cX10_noField 20 = .ok (.iconst 0, 1) := by decide +kernel
theorem dX10_noField_21 : decode cX10_noField 21 = .ok (.ireturn, 1) := by decide +kernel
set_option maxRecDepth 20000 in
theorem ggX10_isThere_X10_in : GoodIn wsX10_isThere wsX10_in := goodIn_r _ [6] rfl (by decide +kernel)
set_option maxRecDepth 20000 in
theorem gX10_isThere_X10_in : GoodIn wsX10_isThere (va_wsS RX10 64 yX10_in wsX10_in) := goodIn_app (goodIn_of _ (by decide +kernel)) ggX10_isThere_X10_in
theorem dX10_isThere_0 : decode cX10_isThere 0 = .ok (.iload_n 1, 1) := by decide +kernel
theorem dX10_isThere_1 : decode cX10_isThere 1 = .ok (.i2l, 1) := by decide +kernel
theorem dX10_isThere_2 : decode cX10_isThere 2 = .ok (.lconst 0, 1) := by decide +kernel
theorem dX10_isThere_3 : decode cX10_isThere 3 = .ok (.aload_n 0, 1) := by decide +kernel
theorem dX10_isThere_4 : decode cX10_isThere 4 = .ok (.getfield 20, 3) := by decide +kernel
theorem dX10_isThere_7 : decode cX10_isThere 7 = .ok (.iconst 1, 1) := by decide +kernel
theorem dX10_isThere_8 : decode cX10_isThere 8 = .ok (.isub, 1) := by decide +kernel
theorem dX10_isThere_9 : decode cX10_isThere 9 = .ok (.i2l, 1) := by decide +kernel
theorem dX10_isThere_10 : decode cX10_isThere 10 = .ok (.invokestatic 64, 3) := by decide +kernel
theorem dX10_isThere_13 : decode cX10_isThere 13 = .ok (.ifCond .eq 23, 3) := by decide +kernel
theorem dX10_isThere_16 : decode cX10_isThere 16 = .ok (.iload_n 2, 1) := by decide +kernel
theorem dX10_isThere_17 : decode cX10_isThere 17 = .ok (.i2l, 1) := by decide +kernel
theorem dX10_isThere_18 : decode cX10_isThere 18 = .ok (.lconst 0, 1) := by decide +kernel
theorem dX10_isThere_19 : decode cX10_isThere 19 = .ok (.aload_n 0, 1) := by decide +kernel
theorem dX10_isThere_20 : decode cX10_isThere 20 = .ok (.getfield 24, 3) := by decide +kernel
theorem dX10_isThere_23 : decode cX10_isThere 23 = .ok (.iconst 1, 1) := by decide +kernel
theorem dX10_isThere_24 : decode cX10_isThere 24 = .ok (.isub, 1) := by decide +kernel
theorem dX10_isThere_25 : decode cX10_isThere 25 = .ok (.i2l, 1) := by decide +kernel
theorem dX10_isThere_26 : decode cX10_isThere 26 = .ok (.invokestatic 64, 3) := by decide +kernel
theorem dX10_isThere_29 : decode cX10_isThere 29 = .ok (.ifCond .eq 7, 3) := by decide +kernel
theorem dX10_isThere_32 : decode cX10_isThere 32 = .ok (.iconst 1, 1) := by decide +kernel
theorem dX10_isThere_33 : decode cX10_isThere 33 = .ok (.goto 4, 3) := by decide +kernel
theorem dX10_isThere_36 : decode cX10_isThere 36 = .ok (.iconst 0, 1) := by decide +kernel
theorem dX10_isThere_37 : decode cX10_isThere 37 = .ok (.ireturn, 1) := by decide +kernel
set_option maxRecDepth 20000 in
theorem ggX10_isOf_X10_isThere : GoodIn wsX10_isOf wsX10_isThere := goodIn_r _ [7, 2, 8, 9, 10, 6, 11, 12, 13, 14, 15, 16, 17, 18, 19, 20, 21, 22, 23, 24, 25, 26, 27, 28, 29] rfl (by decide +kernel)
set_option maxRecDepth 20000 in
theorem gX10_isOf_X10_isThere : GoodIn wsX10_isOf (wsV RX10 121 RX10 yX10_isThere wsX10_isThere) := goodIn_app (goodIn_of _ (by decide +kernel)) ggX10_isOf_X10_isThere
theorem dX10_isOf_0 : decode cX10_isOf 0 = .ok (.aload_n 0, 1) := by decide +kernel
theorem dX10_isOf_1 : decode cX10_isOf 1 = .ok (.iload_n 1, 1) := by decide +kernel
theorem dX10_isOf_2 : decode cX10_isOf 2 = .ok (.iload_n 2, 1) := by decide +kernel
theorem dX10_isOf_3 : decode cX10_isOf 3 = .ok (.invokevirtual 121, 3) := by decide +kernel
theorem dX10_isOf_6 : decode cX10_isOf 6 = .ok (.ifCond .eq 23, 3) := by decide +kernel
theorem dX10_isOf_9 : decode cX10_isOf 9 = .ok (.aload_n 0, 1) := by decide +kernel
theorem dX10_isOf_10 : decode cX10_isOf 10 = .ok (.getfield 27, 3) := by decide +kernel
theorem dX10_isOf_13 : decode cX10_isOf 13 = .ok (.iload_n 2, 1) := by decide +kernel
theorem dX10_isOf_14 : decode cX10_isOf 14 = .ok (.aload_n 0, 1) := by decide +kernel
theorem dX10_isOf_15 : decode cX10_isOf 15 = .ok (.getfield 20, 3) := by decide +kernel
theorem dX10_isOf_18 : decode cX10_isOf 18 = .ok (.imul, 1) := by decide +kernel
theorem dX10_isOf_19 : decode cX10_isOf 19 = .ok (.iload_n 1, 1) := by decide +kernel
theorem dX10_isOf_20 : decode cX10_isOf 20 = .ok (.iadd, 1) := by decide +kernel
theorem dX10_isOf_21 : decode cX10_isOf 21 = .ok (.baload, 1) := by decide +kernel
theorem dX10_isOf_22 : decode cX10_isOf 22 = .ok (.ifCond .eq 7, 3) := by decide +kernel
theorem dX10_isOf_25 : decode cX10_isOf 25 = .ok (.iconst 1, 1) := by decide +kernel
theorem dX10_isOf_26 : decode cX10_isOf 26 = .ok (.goto 4, 3) := by decide +kernel
theorem dX10_isOf_29 : decode cX10_isOf 29 = .ok (.iconst 0, 1) := by decide +kernel
theorem dX10_isOf_30 : decode cX10_isOf 30 = .ok (.ireturn, 1) := by decide +kernel
theorem dX10_onEdge_0 : decode cX10_onEdge 0 = .ok (.iload_n 1, 1) := by decide +kernel
theorem dX10_onEdge_1 : decode cX10_onEdge 1 = .ok (.aload_n 0, 1) := by decide +kernel
theorem dX10_onEdge_2 : decode cX10_onEdge 2 = .ok (.getfield 20, 3) := by decide +kernel
theorem dX10_onEdge_5 : decode cX10_onEdge 5 = .ok (.irem, 1) := by decide +kernel
theorem dX10_onEdge_6 : decode cX10_onEdge 6 = .ok (.istore_n 2, 1) := by decide +kernel
theorem dX10_onEdge_7 : decode cX10_onEdge 7 = .ok (.iload_n 1, 1) := by decide +kernel
theorem dX10_onEdge_8 : decode cX10_onEdge 8 = .ok (.aload_n 0, 1) := by decide +kernel
theorem dX10_onEdge_9 : decode cX10_onEdge 9 = .ok (.getfield 20, 3) := by decide +kernel
theorem dX10_onEdge_12 : decode cX10_onEdge 12 = .ok (.idiv, 1) := by decide +kernel
theorem dX10_onEdge_13 : decode cX10_onEdge 13 = .ok (.istore_n 3, 1) := by decide +kernel
theorem dX10_onEdge_14 : decode cX10_onEdge 14 = .ok (.iload_n 2, 1) := by decide +kernel
theorem dX10_onEdge_15 : decode cX10_onEdge 15 = .ok (.ifCond .eq 27, 3) := by decide +kernel
theorem dX10_onEdge_18 : decode cX10_onEdge 18 = .ok (.iload_n 3, 1) := by decide +kernel
theorem dX10_onEdge_19 : decode cX10_onEdge 19 = .ok (.ifCond .eq 23, 3) := by decide +kernel
theorem dX10_onEdge_22 : decode cX10_onEdge 22 = .ok (.iload_n 2, 1) := by decide +kernel
theorem dX10_onEdge_23 : decode cX10_onEdge 23 = .ok (.aload_n 0, 1) := by decide +kernel
theorem dX10_onEdge_24 : decode cX10_onEdge 24 = .ok (.getfield 20, 3) := by decide +kernel
theorem dX10_onEdge_27 : decode cX10_onEdge 27 = .ok (.iconst 1, 1) := by decide +kernel
theorem dX10_onEdge_28 : decode cX10_onEdge 28 = .ok (.isub, 1) := by decide +kernel
theorem dX10_onEdge_29 : decode cX10_onEdge 29 = .ok (.if_icmp .eq 13, 3) := by decide +kernel
theorem dX10_onEdge_32 : decode cX10_onEdge 32 = .ok (.iload_n 3, 1) := by decide +kernel
theorem dX10_onEdge_33 : decode cX10_onEdge 33 = .ok (.aload_n 0, 1) := by decide +kernel
theorem dX10_onEdge_34 : decode cX10_onEdge 34 = .ok (.getfield 24, 3) := by decide +kernel
theorem dX10_onEdge_37 : decode cX10_onEdge 37 = .ok (.iconst 1, 1) := by decide +kernel
theorem dX10_onEdge_38 : decode cX10_onEdge 38 = .ok (.isub, 1) := by decide +kernel
theorem dX10_onEdge_39 : decode cX10_onEdge 39 = .ok (.if_icmp .ne 7, 3) := by decide +kernel
theorem dX10_onEdge_42 : decode cX10_onEdge 42 = .ok (.iconst 1, 1) := by decide +kernel
theorem dX10_onEdge_43 : decode cX10_onEdge 43 = .ok (.goto 4, 3) := by decide +kernel
theorem dX10_onEdge_46 : decode cX10_onEdge 46 = .ok (.iconst 0, 1) := by decide +kernel
theorem dX10_onEdge_47 : decode cX10_onEdge 47 = .ok (.ireturn, 1) := by decide +kernel
set_option maxRecDepth 20000 in
theorem ggX10_many_X10_fields : GoodIn wsX10_many wsX10_fields := goodIn_r _ [6, 7, 8, 9, 10, 11, 12, 13, 14, 15, 16, 17, 18, 19, 20, 21, 22, 23, 24, 25, 26] rfl (by decide +kernel)
set_option maxRecDepth 20000 in
theorem gX10_many_X10_fields : GoodIn wsX10_many (wsV RX10 117 RX10 yX10_fields wsX10_fields) := goodIn_app (goodIn_of _ (by decide +kernel)) ggX10_many_X10_fields
theorem dX10_many_0 : decode cX10_many 0 = .ok (.iconst 0, 1) := by decide +kernel
theorem dX10_many_1 : decode cX10_many 1 = .ok (.istore_n 1, 1) := by decide +kernel
theorem dX10_many_2 : decode cX10_many 2 = .ok (.iconst 0, 1) := by decide +kernel
theorem dX10_many_3 : decode cX10_many 3 = .ok (.istore_n 2, 1) := by decide +kernel
theorem dX10_many_4 : decode cX10_many 4 = .ok (.iload_n 2, 1) := by decide +kernel
theorem dX10_many_5 : decode cX10_many 5 = .ok (.aload_n 0, 1) := by decide +kernel
theorem dX10_many_6 : decode cX10_many 6 = .ok (.invokevirtual 117, 3) := by decide +kernel
theorem dX10_many_9 : decode cX10_many 9 = .ok (.if_icmp .ge 26, 3) := by decide +kernel
theorem dX10_many_12 : decode cX10_many 12 = .ok (.iload_n 1, 1) := by decide +kernel
theorem dX10_many_13 : decode cX10_many 13 = .ok (.aload_n 0, 1) := by decide +kernel
theorem dX10_many_14 : decode cX10_many 14 = .ok (.getfield 27, 3) := by decide +kernel
theorem dX10_many_17 : decode cX10_many 17 = .ok (.iload_n 2, 1) := by decide +kernel
theorem dX10_many_18 : decode cX10_many 18 = .ok (.baload, 1) := by decide +kernel
theorem dX10_many_19 : decode cX10_many 19 = .ok (.ifCond .eq 7, 3) := by decide +kernel
theorem dX10_many_22 : decode cX10_many 22 = .ok (.iconst 1, 1) := by decide +kernel
theorem dX10_many_23 : decode cX10_many 23 = .ok (.goto 4, 3) := by decide +kernel
theorem dX10_many_26 : decode cX10_many 26 = .ok (.iconst 0, 1) := by decide +kernel
theorem dX10_many_27 : decode cX10_many 27 = .ok (.iadd, 1) := by decide +kernel
theorem dX10_many_28 : decode cX10_many 28 = .ok (.istore_n 1, 1) := by decide +kernel
theorem dX10_many_29 : decode cX10_many 29 = .ok (.iinc 2 1, 3) := by decide +kernel
theorem dX10_many_32 : decode cX10_many 32 = .ok (.goto (-28), 3) := by decide +kernel
theorem dX10_many_35 : decode cX10_many 35 = .ok (.iload_n 1, 1) := by decide +kernel
theorem dX10_many_36 : decode cX10_many 36 = .ok (.ireturn, 1) := by decide +kernel
set_option maxRecDepth 20000 in
theorem ggX10_ground_X10_in : GoodIn wsX10_ground wsX10_in := goodIn_r _ [9] rfl (by decide +kernel)
set_option maxRecDepth 20000 in
theorem gX10_ground_X10_in : GoodIn wsX10_ground (va_wsS RX10 64 yX10_in wsX10_in) := goodIn_app (goodIn_of _ (by decide +kernel)) ggX10_ground_X10_in
theorem dX10_ground_0 : decode cX10_ground 0 = .ok (.aload_n 0, 1) := by decide +kernel
theorem dX10_ground_1 : decode cX10_ground 1 = .ok (.iconst 0, 1) := by decide +kernel
theorem dX10_ground_2 : decode cX10_ground 2 = .ok (.putfield 52, 3) := by decide +kernel
theorem dX10_ground_5 : decode cX10_ground 5 = .ok (.iload_n 1, 1) := by decide +kernel
theorem dX10_ground_6 : decode cX10_ground 6 = .ok (.i2l, 1) := by decide +kernel
theorem dX10_ground_7 : decode cX10_ground 7 = .ok (.lconst 1, 1) := by decide +kernel
theorem dX10_ground_8 : decode cX10_ground 8 = .ok (.ldc2_w 124, 3) := by decide +kernel
theorem dX10_ground_11 : decode cX10_ground 11 = .ok (.invokestatic 64, 3) := by decide +kernel
theorem dX10_ground_14 : decode cX10_ground 14 = .ok (.ifCond .eq 15, 3) := by decide +kernel
theorem dX10_ground_17 : decode cX10_ground 17 = .ok (.iload_n 2, 1) := by decide +kernel
theorem dX10_ground_18 : decode cX10_ground 18 = .ok (.i2l, 1) := by decide +kernel
theorem dX10_ground_19 : decode cX10_ground 19 = .ok (.lconst 1, 1) := by decide +kernel
theorem dX10_ground_20 : decode cX10_ground 20 = .ok (.ldc2_w 124, 3) := by decide +kernel
theorem dX10_ground_23 : decode cX10_ground 23 = .ok (.invokestatic 64, 3) := by decide +kernel
theorem dX10_ground_26 : decode cX10_ground 26 = .ok (.ifCond .ne 7, 3) := by decide +kernel
theorem dX10_ground_29 : decode cX10_ground 29 = .ok (.sipush (-1002), 3) := by decide +kernel
theorem dX10_ground_32 : decode cX10_ground 32 = .ok (.ireturn, 1) := by decide +kernel
theorem dX10_ground_33 : decode cX10_ground 33 = .ok (.aload_n 0, 1) := by decide +kernel
theorem dX10_ground_34 : decode cX10_ground 34 = .ok (.iload_n 1, 1) := by decide +kernel
theorem dX10_ground_35 : decode cX10_ground 35 = .ok (.putfield 20, 3) := by decide +kernel
theorem dX10_ground_38 : decode cX10_ground 38 = .ok (.aload_n 0, 1) := by decide +kernel
theorem dX10_ground_39 : decode cX10_ground 39 = .ok (.iload_n 2, 1) := by decide +kernel
theorem dX10_ground_40 : decode cX10_ground 40 = .ok (.putfield 24, 3) := by decide +kernel
theorem dX10_ground_43 : decode cX10_ground 43 = .ok (.iconst 0, 1) := by decide +kernel
theorem dX10_ground_44 : decode cX10_ground 44 = .ok (.istore_n 3, 1) := by decide +kernel
theorem dX10_ground_45 : decode cX10_ground 45 = .ok (.iload_n 3, 1) := by decide +kernel
theorem dX10_ground_46 : decode cX10_ground 46 = .ok (.sipush 144, 3) := by decide +kernel
theorem dX10_ground_49 : decode cX10_ground 49 = .ok (.if_icmp .ge 16, 3) := by decide +kernel
theorem dX10_ground_52 : decode cX10_ground 52 = .ok (.aload_n 0, 1) := by decide +kernel
theorem dX10_ground_53 : decode cX10_ground 53 = .ok (.getfield 27, 3) := by decide +kernel
theorem dX10_ground_56 : decode cX10_ground 56 = .ok (.iload_n 3, 1) := by decide +kernel
theorem dX10_ground_57 : decode cX10_ground 57 = .ok (.iconst 0, 1) := by decide +kernel
theorem dX10_ground_58 : decode cX10_ground 58 = .ok (.bastore, 1) := by decide +kernel
theorem dX10_ground_59 : decode cX10_ground 59 = .ok (.iinc 3 1, 3) := by decide +kernel
theorem dX10_ground_62 : decode cX10_ground 62 = .ok (.goto (-17), 3) := by decide +kernel
theorem dX10_ground_65 : decode cX10_ground 65 = .ok (.iload_n 1, 1) := by decide +kernel
theorem dX10_ground_66 : decode cX10_ground 66 = .ok (.iload_n 2, 1) := by decide +kernel
theorem dX10_ground_67 : decode cX10_ground 67 = .ok (.imul, 1) := by decide +kernel
theorem dX10_ground_68 : decode cX10_ground 68 = .ok (.ireturn, 1) := by decide +kernel
set_option maxRecDepth 20000 in
theorem ggX10_set_X10_noField : GoodIn wsX10_set wsX10_noField := goodIn_r _ [7, 8, 9, 10, 6, 11, 12, 13, 14, 15, 16, 17, 18, 19, 20, 21, 22, 23, 24, 25, 26, 27, 28, 29, 30, 31, 32, 33, 34] rfl (by decide +kernel)
set_option maxRecDepth 20000 in
theorem gX10_set_X10_noField : GoodIn wsX10_set (wsV RX10 126 RX10 yX10_noField wsX10_noField) := goodIn_app (goodIn_of _ (by decide +kernel)) ggX10_set_X10_noField
theorem dX10_set_0 : decode cX10_set 0 = .ok (.aload_n 0, 1) := by decide +kernel
theorem dX10_set_1 : decode cX10_set 1 = .ok (.iconst 0, 1) := by decide +kernel
theorem dX10_set_2 : decode cX10_set 2 = .ok (.putfield 52, 3) := by decide +kernel
theorem dX10_set_5 : decode cX10_set 5 = .ok (.aload_n 0, 1) := by decide +kernel
theorem dX10_set_6 : decode cX10_set 6 = .ok (.iload_n 1, 1) := by decide +kernel
theorem dX10_set_7 : decode cX10_set 7 = .ok (.invokevirtual 126, 3) := by decide +kernel
theorem dX10_set_10 : decode cX10_set 10 = .ok (.ifCond .eq 7, 3) := by decide +kernel
theorem dX10_set_13 : decode cX10_set 13 = .ok (.sipush (-1001), 3) := by decide +kernel
theorem dX10_set_16 : decode cX10_set 16 = .ok (.ireturn, 1) := by decide +kernel
theorem dX10_set_17 : decode cX10_set 17 = .ok (.aload_n 0, 1) := by decide +kernel
theorem dX10_set_18 : decode cX10_set 18 = .ok (.getfield 27, 3) := by decide +kernel
theorem dX10_set_21 : decode cX10_set 21 = .ok (.iload_n 1, 1) := by decide +kernel
theorem dX10_set_22 : decode cX10_set 22 = .ok (.baload, 1) := by decide +kernel
theorem dX10_set_23 : decode cX10_set 23 = .ok (.ifCond .eq 7, 3) := by decide +kernel
theorem dX10_set_26 : decode cX10_set 26 = .ok (.iconst 1, 1) := by decide +kernel
theorem dX10_set_27 : decode cX10_set 27 = .ok (.goto 4, 3) := by decide +kernel
theorem dX10_set_30 : decode cX10_set 30 = .ok (.iconst 0, 1) := by decide +kernel
theorem dX10_set_31 : decode cX10_set 31 = .ok (.istore_n 3, 1) := by decide +kernel
theorem dX10_set_32 : decode cX10_set 32 = .ok (.aload_n 0, 1) := by decide +kernel
theorem dX10_set_33 : decode cX10_set 33 = .ok (.getfield 27, 3) := by decide +kernel
theorem dX10_set_36 : decode cX10_set 36 = .ok (.iload_n 1, 1) := by decide +kernel
theorem dX10_set_37 : decode cX10_set 37 = .ok (.iload_n 2, 1) := by decide +kernel
theorem dX10_set_38 : decode cX10_set 38 = .ok (.bastore, 1) := by decide +kernel
theorem dX10_set_39 : decode cX10_set 39 = .ok (.iload_n 3, 1) := by decide +kernel
theorem dX10_set_40 : decode cX10_set 40 = .ok (.ireturn, 1) := by decide +kernel
set_option maxRecDepth 20000 in
theorem ggX10_has_X10_noField : GoodIn wsX10_has wsX10_noField := goodIn_r _ [7, 8, 9, 10, 6, 11, 12, 13, 14, 15, 16, 17, 18, 19, 20, 21, 22, 23, 24, 25, 26, 27, 28, 29, 30, 31, 32, 33, 34] rfl (by decide +kernel)
set_option maxRecDepth 20000 in
theorem gX10_has_X10_noField : GoodIn wsX10_has (wsV RX10 126 RX10 yX10_noField wsX10_noField) := goodIn_app (goodIn_of _ (by decide +kernel)) ggX10_has_X10_noField
theorem dX10_has_0 : decode cX10_has 0 = .ok (.aload_n 0, 1) := by decide +kernel
theorem dX10_has_1 : decode cX10_has 1 = .ok (.iconst 0, 1) := by decide +kernel
theorem dX10_has_2 : decode cX10_has 2 = .ok (.putfield 52, 3) := by decide +kernel
theorem dX10_has_5 : decode cX10_has 5 = .ok (.aload_n 0, 1) := by decide +kernel
theorem dX10_has_6 : decode cX10_has 6 = .ok (.iload_n 1, 1) := by decide +kernel
theorem dX10_has_7 : decode cX10_has 7 = .ok (.invokevirtual 126, 3) := by decide +kernel
theorem dX10_has_10 : decode cX10_has 10 = .ok (.ifCond .eq 9, 3) := by decide +kernel
theorem dX10_has_13 : decode cX10_has 13 = .ok (.sipush (-1001), 3) := by decide +kernel
theorem dX10_has_16 : decode cX10_has 16 = .ok (.goto 17, 3) := by decide +kernel
theorem dX10_has_19 : decode cX10_has 19 = .ok (.aload_n 0, 1) := by decide +kernel
theorem dX10_has_20 : decode cX10_has 20 = .ok (.getfield 27, 3) := by decide +kernel
theorem dX10_has_23 : decode cX10_has 23 = .ok (.iload_n 1, 1) := by decide +kernel
theorem dX10_has_24 : decode cX10_has 24 = .ok (.baload, 1) := by decide +kernel
theorem dX10_has_25 : decode cX10_has 25 = .ok (.ifCond .eq 7, 3) := by decide +kernel
theorem dX10_has_28 : decode cX10_has 28 = .ok (.iconst 1, 1) := by decide +kernel
theorem dX10_has_29 : decode cX10_has 29 = .ok (.goto 4, 3) := by decide +kernel
theorem dX10_has_32 : decode cX10_has 32 = .ok (.iconst 0, 1) := by decide +kernel
theorem dX10_has_33 : decode cX10_has 33 = .ok (.ireturn, 1) := by decide +kernel
set_option maxRecDepth 20000 in
theorem ggX10_beside_X10_size : GoodIn wsX10_beside wsX10_size := goodIn_r _ [5] rfl (by decide +kernel)
set_option maxRecDepth 20000 in
theorem gX10_beside_X10_size : GoodIn wsX10_beside (va_wsS RX10 83 yX10_size wsX10_size) := goodIn_app (goodIn_of _ (by decide +kernel)) ggX10_beside_X10_size
theorem dX10_beside_0 : decode cX10_beside 0 = .ok (.iload_n 1, 1) := by decide +kernel
theorem dX10_beside_1 : decode cX10_beside 1 = .ok (.aload_n 0, 1) := by decide +kernel
theorem dX10_beside_2 : decode cX10_beside 2 = .ok (.getfield 20, 3) := by decide +kernel
theorem dX10_beside_5 : decode cX10_beside 5 = .ok (.irem, 1) := by decide +kernel
theorem dX10_beside_6 : decode cX10_beside 6 = .ok (.iload_n 2, 1) := by decide +kernel
theorem dX10_beside_7 : decode cX10_beside 7 = .ok (.aload_n 0, 1) := by decide +kernel
theorem dX10_beside_8 : decode cX10_beside 8 = .ok (.getfield 20, 3) := by decide +kernel
theorem dX10_beside_11 : decode cX10_beside 11 = .ok (.irem, 1) := by decide +kernel
theorem dX10_beside_12 : decode cX10_beside 12 = .ok (.isub, 1) := by decide +kernel
theorem dX10_beside_13 : decode cX10_beside 13 = .ok (.invokestatic 83, 3) := by decide +kernel
theorem dX10_beside_16 : decode cX10_beside 16 = .ok (.iload_n 1, 1) := by decide +kernel
theorem dX10_beside_17 : decode cX10_beside 17 = .ok (.aload_n 0, 1) := by decide +kernel
theorem dX10_beside_18 : decode cX10_beside 18 = .ok (.getfield 20, 3) := by decide +kernel
theorem dX10_beside_21 : decode cX10_beside 21 = .ok (.idiv, 1) := by decide +kernel
theorem dX10_beside_22 : decode cX10_beside 22 = .ok (.iload_n 2, 1) := by decide +kernel
theorem dX10_beside_23 : decode cX10_beside 23 = .ok (.aload_n 0, 1) := by decide +kernel
theorem dX10_beside_24 : decode cX10_beside 24 = .ok (.getfield 20, 3) := by decide +kernel
theorem dX10_beside_27 : decode cX10_beside 27 = .ok (.idiv, 1) := by decide +kernel
theorem dX10_beside_28 : decode cX10_beside 28 = .ok (.isub, 1) := by decide +kernel
theorem dX10_beside_29 : decode cX10_beside 29 = .ok (.invokestatic 83, 3) := by decide +kernel
theorem dX10_beside_32 : decode cX10_beside 32 = .ok (.iadd, 1) := by decide +kernel
theorem dX10_beside_33 : decode cX10_beside 33 = .ok (.iconst 1, 1) := by decide +kernel
theorem dX10_beside_34 : decode cX10_beside 34 = .ok (.if_icmp .ne 7, 3) := by decide +kernel
theorem dX10_beside_37 : decode cX10_beside 37 = .ok (.iconst 1, 1) := by decide +kernel
theorem dX10_beside_38 : decode cX10_beside 38 = .ok (.goto 4, 3) := by decide +kernel
theorem dX10_beside_41 : decode cX10_beside 41 = .ok (.iconst 0, 1) := by decide +kernel
theorem dX10_beside_42 : decode cX10_beside 42 = .ok (.ireturn, 1) := by decide +kernel
set_option maxRecDepth 20000 in
theorem ggX10_about_X10_size : GoodIn wsX10_about wsX10_size := goodIn_r _ [5] rfl (by decide +kernel)
set_option maxRecDepth 20000 in
theorem gX10_about_X10_size : GoodIn wsX10_about (va_wsS RX10 83 yX10_size wsX10_size) := goodIn_app (goodIn_of _ (by decide +kernel)) ggX10_about_X10_size
theorem dX10_about_0 : decode cX10_about 0 = .ok (.iload_n 1, 1) := by decide +kernel
theorem dX10_about_1 : decode cX10_about 1 = .ok (.iload_n 2, 1) := by decide +kernel
theorem dX10_about_2 : decode cX10_about 2 = .ok (.if_icmp .eq 47, 3) := by decide +kernel
theorem dX10_about_5 : decode cX10_about 5 = .ok (.iload_n 1, 1) := by decide +kernel
theorem dX10_about_6 : decode cX10_about 6 = .ok (.aload_n 0, 1) := by decide +kernel
theorem dX10_about_7 : decode cX10_about 7 = .ok (.getfield 20, 3) := by decide +kernel
theorem dX10_about_10 : decode cX10_about 10 = .ok (.irem, 1) := by decide +kernel
theorem dX10_about_11 : decode cX10_about 11 = .ok (.iload_n 2, 1) := by decide +kernel
theorem dX10_about_12 : decode cX10_about 12 = .ok (.aload_n 0, 1) := by decide +kernel
theorem dX10_about_13 : decode cX10_about 13 = .ok (.getfield 20, 3) := by decide +kernel
theorem dX10_about_16 : decode cX10_about 16 = .ok (.irem, 1) := by decide +kernel
theorem dX10_about_17 : decode cX10_about 17 = .ok (.isub, 1) := by decide +kernel
theorem dX10_about_18 : decode cX10_about 18 = .ok (.invokestatic 83, 3) := by decide +kernel
theorem dX10_about_21 : decode cX10_about 21 = .ok (.iconst 2, 1) := by decide +kernel
theorem dX10_about_22 : decode cX10_about 22 = .ok (.if_icmp .ge 27, 3) := by decide +kernel
theorem dX10_about_25 : decode cX10_about 25 = .ok (.iload_n 1, 1) := by decide +kernel
theorem dX10_about_26 : decode cX10_about 26 = .ok (.aload_n 0, 1) := by decide +kernel
theorem dX10_about_27 : decode cX10_about 27 = .ok (.getfield 20, 3) := by decide +kernel
theorem dX10_about_30 : decode cX10_about 30 = .ok (.idiv, 1) := by decide +kernel
theorem dX10_about_31 : decode cX10_about 31 = .ok (.iload_n 2, 1) := by decide +kernel
theorem dX10_about_32 : decode cX10_about 32 = .ok (.aload_n 0, 1) := by decide +kernel
theorem dX10_about_33 : decode cX10_about 33 = .ok (.getfield 20, 3) := by decide +kernel
theorem dX10_about_36 : decode cX10_about 36 = .ok (.idiv, 1) := by decide +kernel
theorem dX10_about_37 : decode cX10_about 37 = .ok (.isub, 1) := by decide +kernel
theorem dX10_about_38 : decode cX10_about 38 = .ok (.invokestatic 83, 3) := by decide +kernel
theorem dX10_about_41 : decode cX10_about 41 = .ok (.iconst 2, 1) := by decide +kernel
theorem dX10_about_42 : decode cX10_about 42 = .ok (.if_icmp .ge 7, 3) := by decide +kernel
theorem dX10_about_45 : decode cX10_about 45 = .ok (.iconst 1, 1) := by decide +kernel
theorem dX10_about_46 : decode cX10_about 46 = .ok (.goto 4, 3) := by decide +kernel
theorem dX10_about_49 : decode cX10_about 49 = .ok (.iconst 0, 1) := by decide +kernel
theorem dX10_about_50 : decode cX10_about 50 = .ok (.ireturn, 1) := by decide +kernel
set_option maxRecDepth 20000 in
theorem ggX10_hang_X10_fields : GoodIn wsX10_hang wsX10_fields := goodIn_r _ [8, 9, 10, 22, 23, 24, 25, 26, 27, 28, 29, 30, 31, 32, 33, 34, 35, 36, 37, 38, 39] rfl (by decide +kernel)
set_option maxRecDepth 20000 in
theorem gX10_hang_X10_fields : GoodIn wsX10_hang (wsV RX10 117 RX10 yX10_fields wsX10_fields) := goodIn_app (goodIn_of _ (by decide +kernel)) ggX10_hang_X10_fields
set_option maxRecDepth 20000 in
theorem ggX10_hang_X10_about : GoodIn wsX10_hang wsX10_about := goodIn_r _ [14, 9, 15, 16, 7, 17, 22, 23, 24, 25, 26, 27, 28, 29, 30, 31, 32, 33, 34, 35, 36, 37, 38, 39] rfl (by decide +kernel)
set_option maxRecDepth 20000 in
theorem gX10_hang_X10_about : GoodIn wsX10_hang (wsV RX10 129 RX10 yX10_about wsX10_about) := goodIn_app (goodIn_of _ (by decide +kernel)) ggX10_hang_X10_about
set_option maxRecDepth 20000 in
theorem ggX10_hang_X10_beside : GoodIn wsX10_hang wsX10_beside := goodIn_r _ [21, 9, 15, 16, 7, 17, 22, 23, 24, 25, 26, 27, 28, 29, 30, 31, 32, 33, 34, 35, 36, 37, 38, 39] rfl (by decide +kernel)
set_option maxRecDepth 20000 in
theorem gX10_hang_X10_beside : GoodIn wsX10_hang (wsV RX10 132 RX10 yX10_beside wsX10_beside) := goodIn_app (goodIn_of _ (by decide +kernel)) ggX10_hang_X10_beside
theorem dX10_hang_0 : decode cX10_hang 0 = .ok (.iconst 0, 1) := by decide +kernel
theorem dX10_hang_1 : decode cX10_hang 1 = .ok (.istore_n 2, 1) := by decide +kernel
theorem dX10_hang_2 : decode cX10_hang 2 = .ok (.iload_n 2, 1) := by decide +kernel
theorem dX10_hang_3 : decode cX10_hang 3 = .ok (.aload_n 0, 1) := by decide +kernel
theorem dX10_hang_4 : decode cX10_hang 4 = .ok (.invokevirtual 117, 3) := by decide +kernel
theorem dX10_hang_7 : decode cX10_hang 7 = .ok (.if_icmp .ge 47, 3) := by decide +kernel
theorem dX10_hang_10 : decode cX10_hang 10 = .ok (.aload_n 0, 1) := by decide +kernel
theorem dX10_hang_11 : decode cX10_hang 11 = .ok (.getfield 34, 3) := by decide +kernel
theorem dX10_hang_14 : decode cX10_hang 14 = .ok (.iload_n 2, 1) := by decide +kernel
theorem dX10_hang_15 : decode cX10_hang 15 = .ok (.iload_n 1, 1) := by decide +kernel
theorem dX10_hang_16 : decode cX10_hang 16 = .ok (.ifCond .eq 15, 3) := by decide +kernel
theorem dX10_hang_19 : decode cX10_hang 19 = .ok (.aload_n 0, 1) := by decide +kernel
theorem dX10_hang_20 : decode cX10_hang 20 = .ok (.getfield 27, 3) := by decide +kernel
theorem dX10_hang_23 : decode cX10_hang 23 = .ok (.iload_n 2, 1) := by decide +kernel
theorem dX10_hang_24 : decode cX10_hang 24 = .ok (.baload, 1) := by decide +kernel
theorem dX10_hang_25 : decode cX10_hang 25 = .ok (.ifCond .eq 19, 3) := by decide +kernel
theorem dX10_hang_28 : decode cX10_hang 28 = .ok (.goto 12, 3) := by decide +kernel
theorem dX10_hang_31 : decode cX10_hang 31 = .ok (.aload_n 0, 1) := by decide +kernel
theorem dX10_hang_32 : decode cX10_hang 32 = .ok (.getfield 31, 3) := by decide +kernel
theorem dX10_hang_35 : decode cX10_hang 35 = .ok (.iload_n 2, 1) := by decide +kernel
theorem dX10_hang_36 : decode cX10_hang 36 = .ok (.baload, 1) := by decide +kernel
theorem dX10_hang_37 : decode cX10_hang 37 = .ok (.ifCond .ne 7, 3) := by decide +kernel
theorem dX10_hang_40 : decode cX10_hang 40 = .ok (.iload_n 2, 1) := by decide +kernel
theorem dX10_hang_41 : decode cX10_hang 41 = .ok (.goto 6, 3) := by decide +kernel
theorem dX10_hang_44 : decode cX10_hang 44 = .ok (.sipush (-999), 3) := by decide +kernel
theorem dX10_hang_47 : decode cX10_hang 47 = .ok (.iastore, 1) := by decide +kernel
theorem dX10_hang_48 : decode cX10_hang 48 = .ok (.iinc 2 1, 3) := by decide +kernel
theorem dX10_hang_51 : decode cX10_hang 51 = .ok (.goto (-49), 3) := by decide +kernel
theorem dX10_hang_54 : decode cX10_hang 54 = .ok (.iconst 1, 1) := by decide +kernel
theorem dX10_hang_55 : decode cX10_hang 55 = .ok (.istore_n 2, 1) := by decide +kernel
theorem dX10_hang_56 : decode cX10_hang 56 = .ok (.iload_n 2, 1) := by decide +kernel
theorem dX10_hang_57 : decode cX10_hang 57 = .ok (.ifCond .eq 125, 3) := by decide +kernel
theorem dX10_hang_60 : decode cX10_hang 60 = .ok (.iconst 0, 1) := by decide +kernel
theorem dX10_hang_61 : decode cX10_hang 61 = .ok (.istore_n 2, 1) := by decide +kernel
theorem dX10_hang_62 : decode cX10_hang 62 = .ok (.iconst 0, 1) := by decide +kernel
theorem dX10_hang_63 : decode cX10_hang 63 = .ok (.istore_n 3, 1) := by decide +kernel
theorem dX10_hang_64 : decode cX10_hang 64 = .ok (.iload_n 3, 1) := by decide +kernel
theorem dX10_hang_65 : decode cX10_hang 65 = .ok (.aload_n 0, 1) := by decide +kernel
theorem dX10_hang_66 : decode cX10_hang 66 = .ok (.invokevirtual 117, 3) := by decide +kernel
theorem dX10_hang_69 : decode cX10_hang 69 = .ok (.if_icmp .ge 110, 3) := by decide +kernel
theorem dX10_hang_72 : decode cX10_hang 72 = .ok (.iconst 0, 1) := by decide +kernel
theorem dX10_hang_73 : decode cX10_hang 73 = .ok (.istore 4, 2) := by decide +kernel
theorem dX10_hang_75 : decode cX10_hang 75 = .ok (.iload 4, 2) := by decide +kernel
theorem dX10_hang_77 : decode cX10_hang 77 = .ok (.aload_n 0, 1) := by decide +kernel
theorem dX10_hang_78 : decode cX10_hang 78 = .ok (.invokevirtual 117, 3) := by decide +kernel
theorem dX10_hang_81 : decode cX10_hang 81 = .ok (.if_icmp .ge 92, 3) := by decide +kernel
theorem dX10_hang_84 : decode cX10_hang 84 = .ok (.aload_n 0, 1) := by decide +kernel
theorem dX10_hang_85 : decode cX10_hang 85 = .ok (.getfield 34, 3) := by decide +kernel
theorem dX10_hang_88 : decode cX10_hang 88 = .ok (.iload_n 3, 1) := by decide +kernel
theorem dX10_hang_89 : decode cX10_hang 89 = .ok (.iaload, 1) := by decide +kernel
theorem dX10_hang_90 : decode cX10_hang 90 = .ok (.sipush (-999), 3) := by decide +kernel
theorem dX10_hang_93 : decode cX10_hang 93 = .ok (.if_icmp .eq 80, 3) := by decide +kernel
theorem dX10_hang_96 : decode cX10_hang 96 = .ok (.aload_n 0, 1) := by decide +kernel
theorem dX10_hang_97 : decode cX10_hang 97 = .ok (.getfield 34, 3) := by decide +kernel
theorem dX10_hang_100 : decode cX10_hang 100 = .ok (.iload 4, 2) := by decide +kernel
theorem dX10_hang_102 : decode cX10_hang 102 = .ok (.iaload, 1) := by decide +kernel
theorem dX10_hang_103 : decode cX10_hang 103 = .ok (.sipush (-999), 3) := by decide +kernel
theorem dX10_hang_106 : decode cX10_hang 106 = .ok (.if_icmp .eq 61, 3) := by decide +kernel
theorem dX10_hang_109 : decode cX10_hang 109 = .ok (.aload_n 0, 1) := by decide +kernel
theorem dX10_hang_110 : decode cX10_hang 110 = .ok (.getfield 34, 3) := by decide +kernel
theorem dX10_hang_113 : decode cX10_hang 113 = .ok (.iload 4, 2) := by decide +kernel
theorem dX10_hang_115 : decode cX10_hang 115 = .ok (.iaload, 1) := by decide +kernel
theorem dX10_hang_116 : decode cX10_hang 116 = .ok (.aload_n 0, 1) := by decide +kernel
theorem dX10_hang_117 : decode cX10_hang 117 = .ok (.getfield 34, 3) := by decide +kernel
theorem dX10_hang_120 : decode cX10_hang 120 = .ok (.iload_n 3, 1) := by decide +kernel
theorem dX10_hang_121 : decode cX10_hang 121 = .ok (.iaload, 1) := by decide +kernel
theorem dX10_hang_122 : decode cX10_hang 122 = .ok (.if_icmp .ge 45, 3) := by decide +kernel
theorem dX10_hang_125 : decode cX10_hang 125 = .ok (.iload_n 1, 1) := by decide +kernel
theorem dX10_hang_126 : decode cX10_hang 126 = .ok (.ifCond .eq 16, 3) := by decide +kernel
theorem dX10_hang_129 : decode cX10_hang 129 = .ok (.aload_n 0, 1) := by decide +kernel
theorem dX10_hang_130 : decode cX10_hang 130 = .ok (.iload_n 3, 1) := by decide +kernel
theorem dX10_hang_131 : decode cX10_hang 131 = .ok (.iload 4, 2) := by decide +kernel
theorem dX10_hang_133 : decode cX10_hang 133 = .ok (.invokevirtual 129, 3) := by decide +kernel
theorem dX10_hang_136 : decode cX10_hang 136 = .ok (.ifCond .eq 31, 3) := by decide +kernel
theorem dX10_hang_139 : decode cX10_hang 139 = .ok (.goto 13, 3) := by decide +kernel
theorem dX10_hang_142 : decode cX10_hang 142 = .ok (.aload_n 0, 1) := by decide +kernel
theorem dX10_hang_143 : decode cX10_hang 143 = .ok (.iload_n 3, 1) := by decide +kernel
theorem dX10_hang_144 : decode cX10_hang 144 = .ok (.iload 4, 2) := by decide +kernel
theorem dX10_hang_146 : decode cX10_hang 146 = .ok (.invokevirtual 132, 3) := by decide +kernel
theorem dX10_hang_149 : decode cX10_hang 149 = .ok (.ifCond .eq 18, 3) := by decide +kernel
theorem dX10_hang_152 : decode cX10_hang 152 = .ok (.aload_n 0, 1) := by decide +kernel
theorem dX10_hang_153 : decode cX10_hang 153 = .ok (.getfield 34, 3) := by decide +kernel
theorem dX10_hang_156 : decode cX10_hang 156 = .ok (.iload_n 3, 1) := by decide +kernel
theorem dX10_hang_157 : decode cX10_hang 157 = .ok (.aload_n 0, 1) := by decide +kernel
theorem dX10_hang_158 : decode cX10_hang 158 = .ok (.getfield 34, 3) := by decide +kernel
theorem dX10_hang_161 : decode cX10_hang 161 = .ok (.iload 4, 2) := by decide +kernel
theorem dX10_hang_163 : decode cX10_hang 163 = .ok (.iaload, 1) := by decide +kernel
theorem dX10_hang_164 : decode cX10_hang 164 = .ok (.iastore, 1) := by decide +kernel
theorem dX10_hang_165 : decode cX10_hang 165 = .ok (.iconst 1, 1) := by decide +kernel
theorem dX10_hang_166 : decode cX10_hang 166 = .ok (.istore_n 2, 1) := by decide +kernel
theorem dX10_hang_167 : decode cX10_hang 167 = .ok (.iinc 4 1, 3) := by decide +kernel
theorem dX10_hang_170 : decode cX10_hang 170 = .ok (.goto (-95), 3) := by decide +kernel
theorem dX10_hang_173 : decode cX10_hang 173 = .ok (.iinc 3 1, 3) := by decide +kernel
theorem dX10_hang_176 : decode cX10_hang 176 = .ok (.goto (-112), 3) := by decide +kernel
theorem dX10_hang_179 : decode cX10_hang 179 = .ok (.goto (-123), 3) := by decide +kernel
theorem dX10_hang_182 : decode cX10_hang 182 = .ok (.return_, 1) := by decide +kernel
set_option maxRecDepth 20000 in
theorem ggX10_comesOut_X10_fields : GoodIn wsX10_comesOut wsX10_fields := goodIn_r _ [6, 7, 8, 13, 14, 15, 16, 17, 18, 19, 20, 21, 22, 23, 24, 25, 26, 27, 28, 29, 30] rfl (by decide +kernel)
set_option maxRecDepth 20000 in
theorem gX10_comesOut_X10_fields : GoodIn wsX10_comesOut (wsV RX10 117 RX10 yX10_fields wsX10_fields) := goodIn_app (goodIn_of _ (by decide +kernel)) ggX10_comesOut_X10_fields
set_option maxRecDepth 20000 in
theorem ggX10_comesOut_X10_onEdge : GoodIn wsX10_comesOut wsX10_onEdge := goodIn_r _ [12, 7, 8, 13, 14, 15, 16, 17, 18, 19, 20, 21, 22, 23, 24, 25, 26, 27, 28, 29, 30] rfl (by decide +kernel)
set_option maxRecDepth 20000 in
theorem gX10_comesOut_X10_onEdge : GoodIn wsX10_comesOut (wsV RX10 135 RX10 yX10_onEdge wsX10_onEdge) := goodIn_app (goodIn_of _ (by decide +kernel)) ggX10_comesOut_X10_onEdge
theorem dX10_comesOut_0 : decode cX10_comesOut 0 = .ok (.iconst 0, 1) := by decide +kernel
theorem dX10_comesOut_1 : decode cX10_comesOut 1 = .ok (.istore_n 2, 1) := by decide +kernel
theorem dX10_comesOut_2 : decode cX10_comesOut 2 = .ok (.iconst 0, 1) := by decide +kernel
theorem dX10_comesOut_3 : decode cX10_comesOut 3 = .ok (.istore_n 3, 1) := by decide +kernel
theorem dX10_comesOut_4 : decode cX10_comesOut 4 = .ok (.iload_n 3, 1) := by decide +kernel
theorem dX10_comesOut_5 : decode cX10_comesOut 5 = .ok (.aload_n 0, 1) := by decide +kernel
theorem dX10_comesOut_6 : decode cX10_comesOut 6 = .ok (.invokevirtual 117, 3) := by decide +kernel
theorem dX10_comesOut_9 : decode cX10_comesOut 9 = .ok (.if_icmp .ge 42, 3) := by decide +kernel
theorem dX10_comesOut_12 : decode cX10_comesOut 12 = .ok (.iload_n 2, 1) := by decide +kernel
theorem dX10_comesOut_13 : decode cX10_comesOut 13 = .ok (.ifCond .ne 26, 3) := by decide +kernel
theorem dX10_comesOut_16 : decode cX10_comesOut 16 = .ok (.aload_n 0, 1) := by decide +kernel
theorem dX10_comesOut_17 : decode cX10_comesOut 17 = .ok (.getfield 34, 3) := by decide +kernel
theorem dX10_comesOut_20 : decode cX10_comesOut 20 = .ok (.iload_n 3, 1) := by decide +kernel
theorem dX10_comesOut_21 : decode cX10_comesOut 21 = .ok (.iaload, 1) := by decide +kernel
theorem dX10_comesOut_22 : decode cX10_comesOut 22 = .ok (.aload_n 0, 1) := by decide +kernel
theorem dX10_comesOut_23 : decode cX10_comesOut 23 = .ok (.getfield 34, 3) := by decide +kernel
theorem dX10_comesOut_26 : decode cX10_comesOut 26 = .ok (.iload_n 1, 1) := by decide +kernel
theorem dX10_comesOut_27 : decode cX10_comesOut 27 = .ok (.iaload, 1) := by decide +kernel
theorem dX10_comesOut_28 : decode cX10_comesOut 28 = .ok (.if_icmp .ne 15, 3) := by decide +kernel
theorem dX10_comesOut_31 : decode cX10_comesOut 31 = .ok (.aload_n 0, 1) := by decide +kernel
theorem dX10_comesOut_32 : decode cX10_comesOut 32 = .ok (.iload_n 3, 1) := by decide +kernel
theorem dX10_comesOut_33 : decode cX10_comesOut 33 = .ok (.invokevirtual 135, 3) := by decide +kernel
theorem dX10_comesOut_36 : decode cX10_comesOut 36 = .ok (.ifCond .eq 7, 3) := by decide +kernel
theorem dX10_comesOut_39 : decode cX10_comesOut 39 = .ok (.iconst 1, 1) := by decide +kernel
theorem dX10_comesOut_40 : decode cX10_comesOut 40 = .ok (.goto 4, 3) := by decide +kernel
theorem dX10_comesOut_43 : decode cX10_comesOut 43 = .ok (.iconst 0, 1) := by decide +kernel
theorem dX10_comesOut_44 : decode cX10_comesOut 44 = .ok (.istore_n 2, 1) := by decide +kernel
theorem dX10_comesOut_45 : decode cX10_comesOut 45 = .ok (.iinc 3 1, 3) := by decide +kernel
theorem dX10_comesOut_48 : decode cX10_comesOut 48 = .ok (.goto (-44), 3) := by decide +kernel
theorem dX10_comesOut_51 : decode cX10_comesOut 51 = .ok (.iload_n 2, 1) := by decide +kernel
theorem dX10_comesOut_52 : decode cX10_comesOut 52 = .ok (.ireturn, 1) := by decide +kernel
set_option maxRecDepth 20000 in
theorem ggX10_fill_X10_noField : GoodIn wsX10_fill wsX10_noField := goodIn_r _ [10, 11, 12, 13, 9, 14, 4, 15, 16, 17, 18, 62, 63, 64, 65, 66, 67, 68, 69, 70, 71, 72, 73, 74, 75, 76, 77, 78, 79] rfl (by decide +kernel)
set_option maxRecDepth 20000 in
theorem gX10_fill_X10_noField : GoodIn wsX10_fill (wsV RX10 126 RX10 yX10_noField wsX10_noField) := goodIn_app (goodIn_of _ (by decide +kernel)) ggX10_fill_X10_noField
set_option maxRecDepth 20000 in
theorem ggX10_fill_X10_placeOf : GoodIn wsX10_fill wsX10_placeOf := goodIn_r _ [22, 23, 24, 25, 9, 26, 27, 28, 29, 62, 63, 64, 65, 66, 67, 68, 69, 70, 71, 72, 73, 74, 75, 76, 77, 78, 79] rfl (by decide +kernel)
set_option maxRecDepth 20000 in
theorem gX10_fill_X10_placeOf : GoodIn wsX10_fill (wsV RX10 77 RX10 yX10_placeOf wsX10_placeOf) := goodIn_app (goodIn_of _ (by decide +kernel)) ggX10_fill_X10_placeOf
set_option maxRecDepth 20000 in
theorem ggX10_fill_X10_isThere : GoodIn wsX10_fill wsX10_isThere := goodIn_r _ [33, 4, 15, 16, 17, 9, 18, 62, 63, 64, 65, 66, 67, 68, 69, 70, 71, 72, 73, 74, 75, 76, 77, 78, 79] rfl (by decide +kernel)
set_option maxRecDepth 20000 in
theorem gX10_fill_X10_isThere : GoodIn wsX10_fill (wsV RX10 121 RX10 yX10_isThere wsX10_isThere) := goodIn_app (goodIn_of _ (by decide +kernel)) ggX10_fill_X10_isThere
set_option maxRecDepth 20000 in
theorem ggX10_fill_X10_hang : GoodIn wsX10_fill wsX10_hang := goodIn_r _ [37, 38, 5, 2, 11, 12, 13, 9, 14, 4, 15, 39, 40, 41, 42, 43, 44, 45, 46, 47, 48, 49, 62, 63, 64, 65, 66, 67, 68, 69, 70, 71, 72, 73, 74, 75, 76, 77, 78, 79] rfl (by decide +kernel)
set_option maxRecDepth 20000 in
theorem gX10_fill_X10_hang : GoodIn wsX10_fill (wsV RX10 138 RX10 yX10_hang wsX10_hang) := goodIn_app (goodIn_of _ (by decide +kernel)) ggX10_fill_X10_hang
set_option maxRecDepth 20000 in
theorem ggX10_fill_X10_fields : GoodIn wsX10_fill wsX10_fields := goodIn_r _ [14, 4, 15, 62, 63, 64, 65, 66, 67, 68, 69, 70, 71, 72, 73, 74, 75, 76, 77, 78, 79] rfl (by decide +kernel)
set_option maxRecDepth 20000 in
theorem gX10_fill_X10_fields : GoodIn wsX10_fill (wsV RX10 117 RX10 yX10_fields wsX10_fields) := goodIn_app (goodIn_of _ (by decide +kernel)) ggX10_fill_X10_fields
set_option maxRecDepth 20000 in
theorem ggX10_fill_X10_comesOut : GoodIn wsX10_fill wsX10_comesOut := goodIn_r _ [53, 38, 11, 12, 13, 9, 14, 4, 15, 54, 55, 56, 57, 62, 63, 64, 65, 66, 67, 68, 69, 70, 71, 72, 73, 74, 75, 76, 77, 78, 79] rfl (by decide +kernel)
set_option maxRecDepth 20000 in
theorem gX10_fill_X10_comesOut : GoodIn wsX10_fill (wsV RX10 142 RX10 yX10_comesOut wsX10_comesOut) := goodIn_app (goodIn_of _ (by decide +kernel)) ggX10_fill_X10_comesOut
set_option maxRecDepth 20000 in
theorem ggX10_fill_X10_many : GoodIn wsX10_fill wsX10_many := goodIn_r _ [61, 5, 11, 12, 13, 9, 14, 4, 15, 62, 63, 64, 65, 66, 67, 68, 69, 70, 71, 72, 73, 74, 75, 76, 77, 78, 79] rfl (by decide +kernel)
set_option maxRecDepth 20000 in
theorem gX10_fill_X10_many : GoodIn wsX10_fill (wsV RX10 145 RX10 yX10_many wsX10_many) := goodIn_app (goodIn_of _ (by decide +kernel)) ggX10_fill_X10_many
theorem dX10_fill_0 : decode cX10_fill 0 = .ok (.aload_n 0, 1) := by decide +kernel
theorem dX10_fill_1 : decode cX10_fill 1 = .ok (.iconst 0, 1) := by decide +kernel
theorem dX10_fill_2 : decode cX10_fill 2 = .ok (.putfield 52, 3) := by decide +kernel
theorem dX10_fill_5 : decode cX10_fill 5 = .ok (.aload_n 0, 1) := by decide +kernel
theorem dX10_fill_6 : decode cX10_fill 6 = .ok (.iload_n 1, 1) := by decide +kernel
theorem dX10_fill_7 : decode cX10_fill 7 = .ok (.invokevirtual 126, 3) := by decide +kernel
theorem dX10_fill_10 : decode cX10_fill 10 = .ok (.ifCond .eq 7, 3) := by decide +kernel
theorem dX10_fill_13 : decode cX10_fill 13 = .ok (.sipush (-1001), 3) := by decide +kernel
theorem dX10_fill_16 : decode cX10_fill 16 = .ok (.ireturn, 1) := by decide +kernel
theorem dX10_fill_17 : decode cX10_fill 17 = .ok (.iconst 0, 1) := by decide +kernel
theorem dX10_fill_18 : decode cX10_fill 18 = .ok (.istore_n 3, 1) := by decide +kernel
theorem dX10_fill_19 : decode cX10_fill 19 = .ok (.iload_n 3, 1) := by decide +kernel
theorem dX10_fill_20 : decode cX10_fill 20 = .ok (.sipush 144, 3) := by decide +kernel
theorem dX10_fill_23 : decode cX10_fill 23 = .ok (.if_icmp .ge 16, 3) := by decide +kernel
theorem dX10_fill_26 : decode cX10_fill 26 = .ok (.aload_n 0, 1) := by decide +kernel
theorem dX10_fill_27 : decode cX10_fill 27 = .ok (.getfield 31, 3) := by decide +kernel
theorem dX10_fill_30 : decode cX10_fill 30 = .ok (.iload_n 3, 1) := by decide +kernel
theorem dX10_fill_31 : decode cX10_fill 31 = .ok (.iconst 0, 1) := by decide +kernel
theorem dX10_fill_32 : decode cX10_fill 32 = .ok (.bastore, 1) := by decide +kernel
theorem dX10_fill_33 : decode cX10_fill 33 = .ok (.iinc 3 1, 3) := by decide +kernel
theorem dX10_fill_36 : decode cX10_fill 36 = .ok (.goto (-17), 3) := by decide +kernel
theorem dX10_fill_39 : decode cX10_fill 39 = .ok (.iconst 0, 1) := by decide +kernel
theorem dX10_fill_40 : decode cX10_fill 40 = .ok (.istore_n 3, 1) := by decide +kernel
theorem dX10_fill_41 : decode cX10_fill 41 = .ok (.iload_n 3, 1) := by decide +kernel
theorem dX10_fill_42 : decode cX10_fill 42 = .ok (.aload_n 0, 1) := by decide +kernel
theorem dX10_fill_43 : decode cX10_fill 43 = .ok (.getfield 68, 3) := by decide +kernel
theorem dX10_fill_46 : decode cX10_fill 46 = .ok (.if_icmp .gt 70, 3) := by decide +kernel
theorem dX10_fill_49 : decode cX10_fill 49 = .ok (.iload_n 1, 1) := by decide +kernel
theorem dX10_fill_50 : decode cX10_fill 50 = .ok (.aload_n 0, 1) := by decide +kernel
theorem dX10_fill_51 : decode cX10_fill 51 = .ok (.getfield 20, 3) := by decide +kernel
theorem dX10_fill_54 : decode cX10_fill 54 = .ok (.irem, 1) := by decide +kernel
theorem dX10_fill_55 : decode cX10_fill 55 = .ok (.aload_n 0, 1) := by decide +kernel
theorem dX10_fill_56 : decode cX10_fill 56 = .ok (.iload_n 3, 1) := by decide +kernel
theorem dX10_fill_57 : decode cX10_fill 57 = .ok (.iconst 0, 1) := by decide +kernel
theorem dX10_fill_58 : decode cX10_fill 58 = .ok (.invokevirtual 77, 3) := by decide +kernel
theorem dX10_fill_61 : decode cX10_fill 61 = .ok (.iadd, 1) := by decide +kernel
theorem dX10_fill_62 : decode cX10_fill 62 = .ok (.istore 4, 2) := by decide +kernel
theorem dX10_fill_64 : decode cX10_fill 64 = .ok (.iload_n 1, 1) := by decide +kernel
theorem dX10_fill_65 : decode cX10_fill 65 = .ok (.aload_n 0, 1) := by decide +kernel
theorem dX10_fill_66 : decode cX10_fill 66 = .ok (.getfield 20, 3) := by decide +kernel
theorem dX10_fill_69 : decode cX10_fill 69 = .ok (.idiv, 1) := by decide +kernel
theorem dX10_fill_70 : decode cX10_fill 70 = .ok (.aload_n 0, 1) := by decide +kernel
theorem dX10_fill_71 : decode cX10_fill 71 = .ok (.iload_n 3, 1) := by decide +kernel
theorem dX10_fill_72 : decode cX10_fill 72 = .ok (.iconst 1, 1) := by decide +kernel
theorem dX10_fill_73 : decode cX10_fill 73 = .ok (.invokevirtual 77, 3) := by decide +kernel
theorem dX10_fill_76 : decode cX10_fill 76 = .ok (.iadd, 1) := by decide +kernel
theorem dX10_fill_77 : decode cX10_fill 77 = .ok (.istore 5, 2) := by decide +kernel
theorem dX10_fill_79 : decode cX10_fill 79 = .ok (.aload_n 0, 1) := by decide +kernel
theorem dX10_fill_80 : decode cX10_fill 80 = .ok (.iload 4, 2) := by decide +kernel
theorem dX10_fill_82 : decode cX10_fill 82 = .ok (.iload 5, 2) := by decide +kernel
theorem dX10_fill_84 : decode cX10_fill 84 = .ok (.invokevirtual 121, 3) := by decide +kernel
theorem dX10_fill_87 : decode cX10_fill 87 = .ok (.ifCond .ne 7, 3) := by decide +kernel
theorem dX10_fill_90 : decode cX10_fill 90 = .ok (.sipush (-1002), 3) := by decide +kernel
theorem dX10_fill_93 : decode cX10_fill 93 = .ok (.ireturn, 1) := by decide +kernel
theorem dX10_fill_94 : decode cX10_fill 94 = .ok (.aload_n 0, 1) := by decide +kernel
theorem dX10_fill_95 : decode cX10_fill 95 = .ok (.getfield 31, 3) := by decide +kernel
theorem dX10_fill_98 : decode cX10_fill 98 = .ok (.iload 5, 2) := by decide +kernel
theorem dX10_fill_100 : decode cX10_fill 100 = .ok (.aload_n 0, 1) := by decide +kernel
theorem dX10_fill_101 : decode cX10_fill 101 = .ok (.getfield 20, 3) := by decide +kernel
theorem dX10_fill_104 : decode cX10_fill 104 = .ok (.imul, 1) := by decide +kernel
theorem dX10_fill_105 : decode cX10_fill 105 = .ok (.iload 4, 2) := by decide +kernel
theorem dX10_fill_107 : decode cX10_fill 107 = .ok (.iadd, 1) := by decide +kernel
theorem dX10_fill_108 : decode cX10_fill 108 = .ok (.iconst 1, 1) := by decide +kernel
theorem dX10_fill_109 : decode cX10_fill 109 = .ok (.bastore, 1) := by decide +kernel
theorem dX10_fill_110 : decode cX10_fill 110 = .ok (.iinc 3 1, 3) := by decide +kernel
theorem dX10_fill_113 : decode cX10_fill 113 = .ok (.goto (-72), 3) := by decide +kernel
theorem dX10_fill_116 : decode cX10_fill 116 = .ok (.iload_n 2, 1) := by decide +kernel
theorem dX10_fill_117 : decode cX10_fill 117 = .ok (.ifCond .eq 31, 3) := by decide +kernel
theorem dX10_fill_120 : decode cX10_fill 120 = .ok (.aload_n 0, 1) := by decide +kernel
theorem dX10_fill_121 : decode cX10_fill 121 = .ok (.aload_n 0, 1) := by decide +kernel
theorem dX10_fill_122 : decode cX10_fill 122 = .ok (.getfield 68, 3) := by decide +kernel
theorem dX10_fill_125 : decode cX10_fill 125 = .ok (.iconst 0, 1) := by decide +kernel
theorem dX10_fill_126 : decode cX10_fill 126 = .ok (.invokevirtual 77, 3) := by decide +kernel
theorem dX10_fill_129 : decode cX10_fill 129 = .ok (.ifCond .ne 15, 3) := by decide +kernel
theorem dX10_fill_132 : decode cX10_fill 132 = .ok (.aload_n 0, 1) := by decide +kernel
theorem dX10_fill_133 : decode cX10_fill 133 = .ok (.aload_n 0, 1) := by decide +kernel
theorem dX10_fill_134 : decode cX10_fill 134 = .ok (.getfield 68, 3) := by decide +kernel
theorem dX10_fill_137 : decode cX10_fill 137 = .ok (.iconst 1, 1) := by decide +kernel
theorem dX10_fill_138 : decode cX10_fill 138 = .ok (.invokevirtual 77, 3) := by decide +kernel
theorem dX10_fill_141 : decode cX10_fill 141 = .ok (.ifCond .eq 7, 3) := by decide +kernel
theorem dX10_fill_144 : decode cX10_fill 144 = .ok (.sipush (-1003), 3) := by decide +kernel
theorem dX10_fill_147 : decode cX10_fill 147 = .ok (.ireturn, 1) := by decide +kernel
theorem dX10_fill_148 : decode cX10_fill 148 = .ok (.aload_n 0, 1) := by decide +kernel
theorem dX10_fill_149 : decode cX10_fill 149 = .ok (.iconst 0, 1) := by decide +kernel
theorem dX10_fill_150 : decode cX10_fill 150 = .ok (.invokevirtual 138, 3) := by decide +kernel
theorem dX10_fill_153 : decode cX10_fill 153 = .ok (.iconst 0, 1) := by decide +kernel
theorem dX10_fill_154 : decode cX10_fill 154 = .ok (.istore_n 3, 1) := by decide +kernel
theorem dX10_fill_155 : decode cX10_fill 155 = .ok (.iload_n 3, 1) := by decide +kernel
theorem dX10_fill_156 : decode cX10_fill 156 = .ok (.aload_n 0, 1) := by decide +kernel
theorem dX10_fill_157 : decode cX10_fill 157 = .ok (.invokevirtual 117, 3) := by decide +kernel
theorem dX10_fill_160 : decode cX10_fill 160 = .ok (.if_icmp .ge 50, 3) := by decide +kernel
theorem dX10_fill_163 : decode cX10_fill 163 = .ok (.aload_n 0, 1) := by decide +kernel
theorem dX10_fill_164 : decode cX10_fill 164 = .ok (.getfield 27, 3) := by decide +kernel
theorem dX10_fill_167 : decode cX10_fill 167 = .ok (.iload_n 3, 1) := by decide +kernel
theorem dX10_fill_168 : decode cX10_fill 168 = .ok (.aload_n 0, 1) := by decide +kernel
theorem dX10_fill_169 : decode cX10_fill 169 = .ok (.getfield 27, 3) := by decide +kernel
theorem dX10_fill_172 : decode cX10_fill 172 = .ok (.iload_n 3, 1) := by decide +kernel
theorem dX10_fill_173 : decode cX10_fill 173 = .ok (.baload, 1) := by decide +kernel
theorem dX10_fill_174 : decode cX10_fill 174 = .ok (.ifCond .ne 24, 3) := by decide +kernel
theorem dX10_fill_177 : decode cX10_fill 177 = .ok (.aload_n 0, 1) := by decide +kernel
theorem dX10_fill_178 : decode cX10_fill 178 = .ok (.getfield 31, 3) := by decide +kernel
theorem dX10_fill_181 : decode cX10_fill 181 = .ok (.iload_n 3, 1) := by decide +kernel
theorem dX10_fill_182 : decode cX10_fill 182 = .ok (.baload, 1) := by decide +kernel
theorem dX10_fill_183 : decode cX10_fill 183 = .ok (.ifCond .ne 15, 3) := by decide +kernel
theorem dX10_fill_186 : decode cX10_fill 186 = .ok (.iload_n 2, 1) := by decide +kernel
theorem dX10_fill_187 : decode cX10_fill 187 = .ok (.ifCond .eq 15, 3) := by decide +kernel
theorem dX10_fill_190 : decode cX10_fill 190 = .ok (.aload_n 0, 1) := by decide +kernel
theorem dX10_fill_191 : decode cX10_fill 191 = .ok (.iload_n 3, 1) := by decide +kernel
theorem dX10_fill_192 : decode cX10_fill 192 = .ok (.invokevirtual 142, 3) := by decide +kernel
theorem dX10_fill_195 : decode cX10_fill 195 = .ok (.ifCond .ne 7, 3) := by decide +kernel
theorem dX10_fill_198 : decode cX10_fill 198 = .ok (.iconst 1, 1) := by decide +kernel
theorem dX10_fill_199 : decode cX10_fill 199 = .ok (.goto 4, 3) := by decide +kernel
theorem dX10_fill_202 : decode cX10_fill 202 = .ok (.iconst 0, 1) := by decide +kernel
theorem dX10_fill_203 : decode cX10_fill 203 = .ok (.bastore, 1) := by decide +kernel
theorem dX10_fill_204 : decode cX10_fill 204 = .ok (.iinc 3 1, 3) := by decide +kernel
theorem dX10_fill_207 : decode cX10_fill 207 = .ok (.goto (-52), 3) := by decide +kernel
theorem dX10_fill_210 : decode cX10_fill 210 = .ok (.aload_n 0, 1) := by decide +kernel
theorem dX10_fill_211 : decode cX10_fill 211 = .ok (.invokevirtual 145, 3) := by decide +kernel
theorem dX10_fill_214 : decode cX10_fill 214 = .ok (.ireturn, 1) := by decide +kernel
set_option maxRecDepth 20000 in
theorem ggX10_parts_X10_hang : GoodIn wsX10_parts wsX10_hang := goodIn_r _ [6, 1, 7, 8, 9, 10, 11, 5, 12, 13, 14, 15, 16, 17, 18, 19, 20, 21, 22, 23, 24, 25, 26, 27, 28, 29, 30, 31, 32, 33, 34, 35, 36, 37, 38, 39, 40, 41, 42, 43] rfl (by decide +kernel)
set_option maxRecDepth 20000 in
theorem gX10_parts_X10_hang : GoodIn wsX10_parts (wsV RX10 138 RX10 yX10_hang wsX10_hang) := goodIn_app (goodIn_of _ (by decide +kernel)) ggX10_parts_X10_hang
set_option maxRecDepth 20000 in
theorem ggX10_parts_X10_fields : GoodIn wsX10_parts wsX10_fields := goodIn_r _ [12, 13, 14, 26, 27, 28, 29, 30, 31, 32, 33, 34, 35, 36, 37, 38, 39, 40, 41, 42, 43] rfl (by decide +kernel)
set_option maxRecDepth 20000 in
theorem gX10_parts_X10_fields : GoodIn wsX10_parts (wsV RX10 117 RX10 yX10_fields wsX10_fields) := goodIn_app (goodIn_of _ (by decide +kernel)) ggX10_parts_X10_fields
theorem dX10_parts_0 : decode cX10_parts 0 = .ok (.aload_n 0, 1) := by decide +kernel
theorem dX10_parts_1 : decode cX10_parts 1 = .ok (.iconst 1, 1) := by decide +kernel
theorem dX10_parts_2 : decode cX10_parts 2 = .ok (.invokevirtual 138, 3) := by decide +kernel
theorem dX10_parts_5 : decode cX10_parts 5 = .ok (.iconst 0, 1) := by decide +kernel
theorem dX10_parts_6 : decode cX10_parts 6 = .ok (.istore_n 1, 1) := by decide +kernel
theorem dX10_parts_7 : decode cX10_parts 7 = .ok (.iconst 0, 1) := by decide +kernel
theorem dX10_parts_8 : decode cX10_parts 8 = .ok (.istore_n 2, 1) := by decide +kernel
theorem dX10_parts_9 : decode cX10_parts 9 = .ok (.iload_n 2, 1) := by decide +kernel
theorem dX10_parts_10 : decode cX10_parts 10 = .ok (.aload_n 0, 1) := by decide +kernel
theorem dX10_parts_11 : decode cX10_parts 11 = .ok (.invokevirtual 117, 3) := by decide +kernel
theorem dX10_parts_14 : decode cX10_parts 14 = .ok (.if_icmp .ge 27, 3) := by decide +kernel
theorem dX10_parts_17 : decode cX10_parts 17 = .ok (.iload_n 1, 1) := by decide +kernel
theorem dX10_parts_18 : decode cX10_parts 18 = .ok (.aload_n 0, 1) := by decide +kernel
theorem dX10_parts_19 : decode cX10_parts 19 = .ok (.getfield 34, 3) := by decide +kernel
theorem dX10_parts_22 : decode cX10_parts 22 = .ok (.iload_n 2, 1) := by decide +kernel
theorem dX10_parts_23 : decode cX10_parts 23 = .ok (.iaload, 1) := by decide +kernel
theorem dX10_parts_24 : decode cX10_parts 24 = .ok (.iload_n 2, 1) := by decide +kernel
theorem dX10_parts_25 : decode cX10_parts 25 = .ok (.if_icmp .ne 7, 3) := by decide +kernel
theorem dX10_parts_28 : decode cX10_parts 28 = .ok (.iconst 1, 1) := by decide +kernel
theorem dX10_parts_29 : decode cX10_parts 29 = .ok (.goto 4, 3) := by decide +kernel
theorem dX10_parts_32 : decode cX10_parts 32 = .ok (.iconst 0, 1) := by decide +kernel
theorem dX10_parts_33 : decode cX10_parts 33 = .ok (.iadd, 1) := by decide +kernel
theorem dX10_parts_34 : decode cX10_parts 34 = .ok (.istore_n 1, 1) := by decide +kernel
theorem dX10_parts_35 : decode cX10_parts 35 = .ok (.iinc 2 1, 3) := by decide +kernel
theorem dX10_parts_38 : decode cX10_parts 38 = .ok (.goto (-29), 3) := by decide +kernel
theorem dX10_parts_41 : decode cX10_parts 41 = .ok (.iload_n 1, 1) := by decide +kernel
theorem dX10_parts_42 : decode cX10_parts 42 = .ok (.ireturn, 1) := by decide +kernel
set_option maxRecDepth 20000 in
theorem ggX10_holes_X10_fields : GoodIn wsX10_holes wsX10_fields := goodIn_r _ [8, 9, 10, 34, 35, 36, 37, 38, 39, 40, 41, 42, 43, 44, 45, 46, 47, 48, 49, 50, 51] rfl (by decide +kernel)
set_option maxRecDepth 20000 in
theorem gX10_holes_X10_fields : GoodIn wsX10_holes (wsV RX10 117 RX10 yX10_fields wsX10_fields) := goodIn_app (goodIn_of _ (by decide +kernel)) ggX10_holes_X10_fields
set_option maxRecDepth 20000 in
theorem ggX10_holes_X10_hang : GoodIn wsX10_holes wsX10_hang := goodIn_r _ [14, 3, 2, 1, 4, 5, 6, 7, 8, 9, 10, 15, 16, 17, 18, 19, 20, 21, 22, 23, 24, 25, 34, 35, 36, 37, 38, 39, 40, 41, 42, 43, 44, 45, 46, 47, 48, 49, 50, 51] rfl (by decide +kernel)
set_option maxRecDepth 20000 in
theorem gX10_holes_X10_hang : GoodIn wsX10_holes (wsV RX10 138 RX10 yX10_hang wsX10_hang) := goodIn_app (goodIn_of _ (by decide +kernel)) ggX10_holes_X10_hang
set_option maxRecDepth 20000 in
theorem ggX10_holes_X10_comesOut : GoodIn wsX10_holes wsX10_comesOut := goodIn_r _ [29, 3, 4, 5, 6, 7, 8, 9, 10, 30, 31, 32, 33, 34, 35, 36, 37, 38, 39, 40, 41, 42, 43, 44, 45, 46, 47, 48, 49, 50, 51] rfl (by decide +kernel)
set_option maxRecDepth 20000 in
theorem gX10_holes_X10_comesOut : GoodIn wsX10_holes (wsV RX10 142 RX10 yX10_comesOut wsX10_comesOut) := goodIn_app (goodIn_of _ (by decide +kernel)) ggX10_holes_X10_comesOut
theorem dX10_holes_0 : decode cX10_holes 0 = .ok (.iconst 0, 1) := by decide +kernel
theorem dX10_holes_1 : decode cX10_holes 1 = .ok (.istore_n 1, 1) := by decide +kernel
theorem dX10_holes_2 : decode cX10_holes 2 = .ok (.iload_n 1, 1) := by decide +kernel
theorem dX10_holes_3 : decode cX10_holes 3 = .ok (.aload_n 0, 1) := by decide +kernel
theorem dX10_holes_4 : decode cX10_holes 4 = .ok (.invokevirtual 117, 3) := by decide +kernel
theorem dX10_holes_7 : decode cX10_holes 7 = .ok (.if_icmp .ge 21, 3) := by decide +kernel
theorem dX10_holes_10 : decode cX10_holes 10 = .ok (.aload_n 0, 1) := by decide +kernel
theorem dX10_holes_11 : decode cX10_holes 11 = .ok (.getfield 31, 3) := by decide +kernel
theorem dX10_holes_14 : decode cX10_holes 14 = .ok (.iload_n 1, 1) := by decide +kernel
theorem dX10_holes_15 : decode cX10_holes 15 = .ok (.aload_n 0, 1) := by decide +kernel
theorem dX10_holes_16 : decode cX10_holes 16 = .ok (.getfield 27, 3) := by decide +kernel
theorem dX10_holes_19 : decode cX10_holes 19 = .ok (.iload_n 1, 1) := by decide +kernel
theorem dX10_holes_20 : decode cX10_holes 20 = .ok (.baload, 1) := by decide +kernel
theorem dX10_holes_21 : decode cX10_holes 21 = .ok (.bastore, 1) := by decide +kernel
theorem dX10_holes_22 : decode cX10_holes 22 = .ok (.iinc 1 1, 3) := by decide +kernel
theorem dX10_holes_25 : decode cX10_holes 25 = .ok (.goto (-23), 3) := by decide +kernel
theorem dX10_holes_28 : decode cX10_holes 28 = .ok (.aload_n 0, 1) := by decide +kernel
theorem dX10_holes_29 : decode cX10_holes 29 = .ok (.iconst 0, 1) := by decide +kernel
theorem dX10_holes_30 : decode cX10_holes 30 = .ok (.invokevirtual 138, 3) := by decide +kernel
theorem dX10_holes_33 : decode cX10_holes 33 = .ok (.iconst 0, 1) := by decide +kernel
theorem dX10_holes_34 : decode cX10_holes 34 = .ok (.istore_n 1, 1) := by decide +kernel
theorem dX10_holes_35 : decode cX10_holes 35 = .ok (.iconst 0, 1) := by decide +kernel
theorem dX10_holes_36 : decode cX10_holes 36 = .ok (.istore_n 2, 1) := by decide +kernel
theorem dX10_holes_37 : decode cX10_holes 37 = .ok (.iload_n 2, 1) := by decide +kernel
theorem dX10_holes_38 : decode cX10_holes 38 = .ok (.aload_n 0, 1) := by decide +kernel
theorem dX10_holes_39 : decode cX10_holes 39 = .ok (.invokevirtual 117, 3) := by decide +kernel
theorem dX10_holes_42 : decode cX10_holes 42 = .ok (.if_icmp .ge 35, 3) := by decide +kernel
theorem dX10_holes_45 : decode cX10_holes 45 = .ok (.iload_n 1, 1) := by decide +kernel
theorem dX10_holes_46 : decode cX10_holes 46 = .ok (.aload_n 0, 1) := by decide +kernel
theorem dX10_holes_47 : decode cX10_holes 47 = .ok (.getfield 34, 3) := by decide +kernel
theorem dX10_holes_50 : decode cX10_holes 50 = .ok (.iload_n 2, 1) := by decide +kernel
theorem dX10_holes_51 : decode cX10_holes 51 = .ok (.iaload, 1) := by decide +kernel
theorem dX10_holes_52 : decode cX10_holes 52 = .ok (.iload_n 2, 1) := by decide +kernel
theorem dX10_holes_53 : decode cX10_holes 53 = .ok (.if_icmp .ne 15, 3) := by decide +kernel
theorem dX10_holes_56 : decode cX10_holes 56 = .ok (.aload_n 0, 1) := by decide +kernel
theorem dX10_holes_57 : decode cX10_holes 57 = .ok (.iload_n 2, 1) := by decide +kernel
theorem dX10_holes_58 : decode cX10_holes 58 = .ok (.invokevirtual 142, 3) := by decide +kernel
theorem dX10_holes_61 : decode cX10_holes 61 = .ok (.ifCond .ne 7, 3) := by decide +kernel
theorem dX10_holes_64 : decode cX10_holes 64 = .ok (.iconst 1, 1) := by decide +kernel
theorem dX10_holes_65 : decode cX10_holes 65 = .ok (.goto 4, 3) := by decide +kernel
theorem dX10_holes_68 : decode cX10_holes 68 = .ok (.iconst 0, 1) := by decide +kernel
theorem dX10_holes_69 : decode cX10_holes 69 = .ok (.iadd, 1) := by decide +kernel
theorem dX10_holes_70 : decode cX10_holes 70 = .ok (.istore_n 1, 1) := by decide +kernel
theorem dX10_holes_71 : decode cX10_holes 71 = .ok (.iinc 2 1, 3) := by decide +kernel
theorem dX10_holes_74 : decode cX10_holes 74 = .ok (.goto (-37), 3) := by decide +kernel
theorem dX10_holes_77 : decode cX10_holes 77 = .ok (.iload_n 1, 1) := by decide +kernel
theorem dX10_holes_78 : decode cX10_holes 78 = .ok (.ireturn, 1) := by decide +kernel
set_option maxRecDepth 20000 in
theorem ggX10_rims_X10_fields : GoodIn wsX10_rims wsX10_fields := goodIn_r _ [7, 1, 8, 26, 27, 28, 29, 30, 31, 32, 33, 34, 35, 36, 37, 38, 39, 40, 41, 42, 43] rfl (by decide +kernel)
set_option maxRecDepth 20000 in
theorem gX10_rims_X10_fields : GoodIn wsX10_rims (wsV RX10 117 RX10 yX10_fields wsX10_fields) := goodIn_app (goodIn_of _ (by decide +kernel)) ggX10_rims_X10_fields
set_option maxRecDepth 20000 in
theorem ggX10_rims_X10_stepX : GoodIn wsX10_rims wsX10_stepX := goodIn_r _ [11] rfl (by decide +kernel)
set_option maxRecDepth 20000 in
theorem gX10_rims_X10_stepX : GoodIn wsX10_rims (va_wsS RX10 59 yX10_stepX wsX10_stepX) := goodIn_app (goodIn_of _ (by decide +kernel)) ggX10_rims_X10_stepX
set_option maxRecDepth 20000 in
theorem ggX10_rims_X10_stepY : GoodIn wsX10_rims wsX10_stepY := goodIn_r _ [14] rfl (by decide +kernel)
set_option maxRecDepth 20000 in
theorem gX10_rims_X10_stepY : GoodIn wsX10_rims (va_wsS RX10 55 yX10_stepY wsX10_stepY) := goodIn_app (goodIn_of _ (by decide +kernel)) ggX10_rims_X10_stepY
set_option maxRecDepth 20000 in
theorem ggX10_rims_X10_isOf : GoodIn wsX10_rims wsX10_isOf := goodIn_r _ [18, 2, 1, 19, 20, 21, 6, 22, 8, 23, 24, 25, 26, 27, 28, 29, 30, 31, 32, 33, 34, 35, 36, 37, 38, 39, 40, 41, 42, 43] rfl (by decide +kernel)
set_option maxRecDepth 20000 in
theorem gX10_rims_X10_isOf : GoodIn wsX10_rims (wsV RX10 148 RX10 yX10_isOf wsX10_isOf) := goodIn_app (goodIn_of _ (by decide +kernel)) ggX10_rims_X10_isOf
theorem dX10_rims_0 : decode cX10_rims 0 = .ok (.iconst 0, 1) := by decide +kernel
theorem dX10_rims_1 : decode cX10_rims 1 = .ok (.istore_n 1, 1) := by decide +kernel
theorem dX10_rims_2 : decode cX10_rims 2 = .ok (.iconst 0, 1) := by decide +kernel
theorem dX10_rims_3 : decode cX10_rims 3 = .ok (.istore_n 2, 1) := by decide +kernel
theorem dX10_rims_4 : decode cX10_rims 4 = .ok (.iload_n 2, 1) := by decide +kernel
theorem dX10_rims_5 : decode cX10_rims 5 = .ok (.aload_n 0, 1) := by decide +kernel
theorem dX10_rims_6 : decode cX10_rims 6 = .ok (.invokevirtual 117, 3) := by decide +kernel
theorem dX10_rims_9 : decode cX10_rims 9 = .ok (.if_icmp .ge 79, 3) := by decide +kernel
theorem dX10_rims_12 : decode cX10_rims 12 = .ok (.iload_n 2, 1) := by decide +kernel
theorem dX10_rims_13 : decode cX10_rims 13 = .ok (.aload_n 0, 1) := by decide +kernel
theorem dX10_rims_14 : decode cX10_rims 14 = .ok (.getfield 20, 3) := by decide +kernel
theorem dX10_rims_17 : decode cX10_rims 17 = .ok (.irem, 1) := by decide +kernel
theorem dX10_rims_18 : decode cX10_rims 18 = .ok (.istore_n 3, 1) := by decide +kernel
theorem dX10_rims_19 : decode cX10_rims 19 = .ok (.iload_n 2, 1) := by decide +kernel
theorem dX10_rims_20 : decode cX10_rims 20 = .ok (.aload_n 0, 1) := by decide +kernel
theorem dX10_rims_21 : decode cX10_rims 21 = .ok (.getfield 20, 3) := by decide +kernel
theorem dX10_rims_24 : decode cX10_rims 24 = .ok (.idiv, 1) := by decide +kernel
theorem dX10_rims_25 : decode cX10_rims 25 = .ok (.istore 4, 2) := by decide +kernel
theorem dX10_rims_27 : decode cX10_rims 27 = .ok (.iconst 0, 1) := by decide +kernel
theorem dX10_rims_28 : decode cX10_rims 28 = .ok (.istore 5, 2) := by decide +kernel
theorem dX10_rims_30 : decode cX10_rims 30 = .ok (.iload 5, 2) := by decide +kernel
theorem dX10_rims_32 : decode cX10_rims 32 = .ok (.bipush 8, 2) := by decide +kernel
theorem dX10_rims_34 : decode cX10_rims 34 = .ok (.if_icmp .ge 48, 3) := by decide +kernel
theorem dX10_rims_37 : decode cX10_rims 37 = .ok (.aload_n 0, 1) := by decide +kernel
theorem dX10_rims_38 : decode cX10_rims 38 = .ok (.getfield 27, 3) := by decide +kernel
theorem dX10_rims_41 : decode cX10_rims 41 = .ok (.iload_n 2, 1) := by decide +kernel
theorem dX10_rims_42 : decode cX10_rims 42 = .ok (.baload, 1) := by decide +kernel
theorem dX10_rims_43 : decode cX10_rims 43 = .ok (.ifCond .eq 39, 3) := by decide +kernel
theorem dX10_rims_46 : decode cX10_rims 46 = .ok (.iload_n 1, 1) := by decide +kernel
theorem dX10_rims_47 : decode cX10_rims 47 = .ok (.aload_n 0, 1) := by decide +kernel
theorem dX10_rims_48 : decode cX10_rims 48 = .ok (.iload_n 3, 1) := by decide +kernel
theorem dX10_rims_49 : decode cX10_rims 49 = .ok (.iload 5, 2) := by decide +kernel
theorem dX10_rims_51 : decode cX10_rims 51 = .ok (.invokestatic 59, 3) := by decide +kernel
theorem dX10_rims_54 : decode cX10_rims 54 = .ok (.iadd, 1) := by decide +kernel
theorem dX10_rims_55 : decode cX10_rims 55 = .ok (.iload 4, 2) := by decide +kernel
theorem dX10_rims_57 : decode cX10_rims 57 = .ok (.iload 5, 2) := by decide +kernel
theorem dX10_rims_59 : decode cX10_rims 59 = .ok (.invokestatic 55, 3) := by decide +kernel
theorem dX10_rims_62 : decode cX10_rims 62 = .ok (.iadd, 1) := by decide +kernel
theorem dX10_rims_63 : decode cX10_rims 63 = .ok (.invokevirtual 148, 3) := by decide +kernel
theorem dX10_rims_66 : decode cX10_rims 66 = .ok (.ifCond .eq 7, 3) := by decide +kernel
theorem dX10_rims_69 : decode cX10_rims 69 = .ok (.iconst 0, 1) := by decide +kernel
theorem dX10_rims_70 : decode cX10_rims 70 = .ok (.goto 4, 3) := by decide +kernel
theorem dX10_rims_73 : decode cX10_rims 73 = .ok (.iconst 1, 1) := by decide +kernel
theorem dX10_rims_74 : decode cX10_rims 74 = .ok (.iadd, 1) := by decide +kernel
theorem dX10_rims_75 : decode cX10_rims 75 = .ok (.istore_n 1, 1) := by decide +kernel
theorem dX10_rims_76 : decode cX10_rims 76 = .ok (.iinc 5 2, 3) := by decide +kernel
theorem dX10_rims_79 : decode cX10_rims 79 = .ok (.goto (-49), 3) := by decide +kernel
theorem dX10_rims_82 : decode cX10_rims 82 = .ok (.iinc 2 1, 3) := by decide +kernel
theorem dX10_rims_85 : decode cX10_rims 85 = .ok (.goto (-81), 3) := by decide +kernel
theorem dX10_rims_88 : decode cX10_rims 88 = .ok (.iload_n 1, 1) := by decide +kernel
theorem dX10_rims_89 : decode cX10_rims 89 = .ok (.ireturn, 1) := by decide +kernel
theorem dX10_side_0 : decode cX10_side 0 = .ok (.iload_n 2, 1) := by decide +kernel
theorem dX10_side_1 : decode cX10_side 1 = .ok (.aload_n 0, 1) := by decide +kernel
theorem dX10_side_2 : decode cX10_side 2 = .ok (.getfield 20, 3) := by decide +kernel
theorem dX10_side_5 : decode cX10_side 5 = .ok (.irem, 1) := by decide +kernel
theorem dX10_side_6 : decode cX10_side 6 = .ok (.iload_n 1, 1) := by decide +kernel
theorem dX10_side_7 : decode cX10_side 7 = .ok (.aload_n 0, 1) := by decide +kernel
theorem dX10_side_8 : decode cX10_side 8 = .ok (.getfield 20, 3) := by decide +kernel
theorem dX10_side_11 : decode cX10_side 11 = .ok (.irem, 1) := by decide +kernel
theorem dX10_side_12 : decode cX10_side 12 = .ok (.isub, 1) := by decide +kernel
theorem dX10_side_13 : decode cX10_side 13 = .ok (.iload_n 3, 1) := by decide +kernel
theorem dX10_side_14 : decode cX10_side 14 = .ok (.aload_n 0, 1) := by decide +kernel
theorem dX10_side_15 : decode cX10_side 15 = .ok (.getfield 20, 3) := by decide +kernel
theorem dX10_side_18 : decode cX10_side 18 = .ok (.idiv, 1) := by decide +kernel
theorem dX10_side_19 : decode cX10_side 19 = .ok (.iload_n 1, 1) := by decide +kernel
theorem dX10_side_20 : decode cX10_side 20 = .ok (.aload_n 0, 1) := by decide +kernel
theorem dX10_side_21 : decode cX10_side 21 = .ok (.getfield 20, 3) := by decide +kernel
theorem dX10_side_24 : decode cX10_side 24 = .ok (.idiv, 1) := by decide +kernel
theorem dX10_side_25 : decode cX10_side 25 = .ok (.isub, 1) := by decide +kernel
theorem dX10_side_26 : decode cX10_side 26 = .ok (.imul, 1) := by decide +kernel
theorem dX10_side_27 : decode cX10_side 27 = .ok (.iload_n 2, 1) := by decide +kernel
theorem dX10_side_28 : decode cX10_side 28 = .ok (.aload_n 0, 1) := by decide +kernel
theorem dX10_side_29 : decode cX10_side 29 = .ok (.getfield 20, 3) := by decide +kernel
theorem dX10_side_32 : decode cX10_side 32 = .ok (.idiv, 1) := by decide +kernel
theorem dX10_side_33 : decode cX10_side 33 = .ok (.iload_n 1, 1) := by decide +kernel
theorem dX10_side_34 : decode cX10_side 34 = .ok (.aload_n 0, 1) := by decide +kernel
theorem dX10_side_35 : decode cX10_side 35 = .ok (.getfield 20, 3) := by decide +kernel
theorem dX10_side_38 : decode cX10_side 38 = .ok (.idiv, 1) := by decide +kernel
theorem dX10_side_39 : decode cX10_side 39 = .ok (.isub, 1) := by decide +kernel
theorem dX10_side_40 : decode cX10_side 40 = .ok (.iload_n 3, 1) := by decide +kernel
theorem dX10_side_41 : decode cX10_side 41 = .ok (.aload_n 0, 1) := by decide +kernel
theorem dX10_side_42 : decode cX10_side 42 = .ok (.getfield 20, 3) := by decide +kernel
theorem dX10_side_45 : decode cX10_side 45 = .ok (.irem, 1) := by decide +kernel
theorem dX10_side_46 : decode cX10_side 46 = .ok (.iload_n 1, 1) := by decide +kernel
theorem dX10_side_47 : decode cX10_side 47 = .ok (.aload_n 0, 1) := by decide +kernel
theorem dX10_side_48 : decode cX10_side 48 = .ok (.getfield 20, 3) := by decide +kernel
theorem dX10_side_51 : decode cX10_side 51 = .ok (.irem, 1) := by decide +kernel
theorem dX10_side_52 : decode cX10_side 52 = .ok (.isub, 1) := by decide +kernel
theorem dX10_side_53 : decode cX10_side 53 = .ok (.imul, 1) := by decide +kernel
theorem dX10_side_54 : decode cX10_side 54 = .ok (.isub, 1) := by decide +kernel
theorem dX10_side_55 : decode cX10_side 55 = .ok (.ireturn, 1) := by decide +kernel
set_option maxRecDepth 20000 in
theorem ggX10_corners_X10_isOf : GoodIn wsX10_corners wsX10_isOf := goodIn_r _ [7, 8, 1, 9, 10, 11, 6, 12, 2, 13, 14, 15, 25, 26, 27, 28, 29, 30, 31, 32, 33, 34, 35, 36, 37, 38, 39, 40, 41, 42] rfl (by decide +kernel)
set_option maxRecDepth 20000 in
theorem gX10_corners_X10_isOf : GoodIn wsX10_corners (wsV RX10 148 RX10 yX10_isOf wsX10_isOf) := goodIn_app (goodIn_of _ (by decide +kernel)) ggX10_corners_X10_isOf
set_option maxRecDepth 20000 in
theorem ggX10_corners_X10_lay : GoodIn wsX10_corners wsX10_lay := goodIn_r _ [19, 20, 21, 22, 23, 6, 24, 1, 25, 26, 27, 28, 29, 30, 31, 32, 33, 34, 35, 36, 37, 38, 39, 40, 41, 42] rfl (by decide +kernel)
set_option maxRecDepth 20000 in
theorem gX10_corners_X10_lay : GoodIn wsX10_corners (wsV RX10 151 RX10 yX10_lay wsX10_lay) := goodIn_app (goodIn_of _ (by decide +kernel)) ggX10_corners_X10_lay
theorem dX10_corners_0 : decode cX10_corners 0 = .ok (.iconst 0, 1) := by decide +kernel
theorem dX10_corners_1 : decode cX10_corners 1 = .ok (.istore_n 1, 1) := by decide +kernel
theorem dX10_corners_2 : decode cX10_corners 2 = .ok (.iconst 0, 1) := by decide +kernel
theorem dX10_corners_3 : decode cX10_corners 3 = .ok (.istore_n 2, 1) := by decide +kernel
theorem dX10_corners_4 : decode cX10_corners 4 = .ok (.iload_n 2, 1) := by decide +kernel
theorem dX10_corners_5 : decode cX10_corners 5 = .ok (.aload_n 0, 1) := by decide +kernel
theorem dX10_corners_6 : decode cX10_corners 6 = .ok (.getfield 20, 3) := by decide +kernel
theorem dX10_corners_9 : decode cX10_corners 9 = .ok (.if_icmp .ge 53, 3) := by decide +kernel
theorem dX10_corners_12 : decode cX10_corners 12 = .ok (.iconst 0, 1) := by decide +kernel
theorem dX10_corners_13 : decode cX10_corners 13 = .ok (.istore_n 3, 1) := by decide +kernel
theorem dX10_corners_14 : decode cX10_corners 14 = .ok (.iload_n 3, 1) := by decide +kernel
theorem dX10_corners_15 : decode cX10_corners 15 = .ok (.aload_n 0, 1) := by decide +kernel
theorem dX10_corners_16 : decode cX10_corners 16 = .ok (.getfield 24, 3) := by decide +kernel
theorem dX10_corners_19 : decode cX10_corners 19 = .ok (.if_icmp .ge 37, 3) := by decide +kernel
theorem dX10_corners_22 : decode cX10_corners 22 = .ok (.aload_n 0, 1) := by decide +kernel
theorem dX10_corners_23 : decode cX10_corners 23 = .ok (.iload_n 2, 1) := by decide +kernel
theorem dX10_corners_24 : decode cX10_corners 24 = .ok (.iload_n 3, 1) := by decide +kernel
theorem dX10_corners_25 : decode cX10_corners 25 = .ok (.invokevirtual 148, 3) := by decide +kernel
theorem dX10_corners_28 : decode cX10_corners 28 = .ok (.ifCond .eq 20, 3) := by decide +kernel
theorem dX10_corners_31 : decode cX10_corners 31 = .ok (.aload_n 0, 1) := by decide +kernel
theorem dX10_corners_32 : decode cX10_corners 32 = .ok (.iload_n 1, 1) := by decide +kernel
theorem dX10_corners_33 : decode cX10_corners 33 = .ok (.iconst 1, 1) := by decide +kernel
theorem dX10_corners_34 : decode cX10_corners 34 = .ok (.iload_n 3, 1) := by decide +kernel
theorem dX10_corners_35 : decode cX10_corners 35 = .ok (.aload_n 0, 1) := by decide +kernel
theorem dX10_corners_36 : decode cX10_corners 36 = .ok (.getfield 20, 3) := by decide +kernel
theorem dX10_corners_39 : decode cX10_corners 39 = .ok (.imul, 1) := by decide +kernel
theorem dX10_corners_40 : decode cX10_corners 40 = .ok (.iload_n 2, 1) := by decide +kernel
theorem dX10_corners_41 : decode cX10_corners 41 = .ok (.iadd, 1) := by decide +kernel
theorem dX10_corners_42 : decode cX10_corners 42 = .ok (.invokevirtual 151, 3) := by decide +kernel
theorem dX10_corners_45 : decode cX10_corners 45 = .ok (.goto 4, 3) := by decide +kernel
theorem dX10_corners_48 : decode cX10_corners 48 = .ok (.iload_n 1, 1) := by decide +kernel
theorem dX10_corners_49 : decode cX10_corners 49 = .ok (.istore_n 1, 1) := by decide +kernel
theorem dX10_corners_50 : decode cX10_corners 50 = .ok (.iinc 3 1, 3) := by decide +kernel
theorem dX10_corners_53 : decode cX10_corners 53 = .ok (.goto (-39), 3) := by decide +kernel
theorem dX10_corners_56 : decode cX10_corners 56 = .ok (.iinc 2 1, 3) := by decide +kernel
theorem dX10_corners_59 : decode cX10_corners 59 = .ok (.goto (-55), 3) := by decide +kernel
theorem dX10_corners_62 : decode cX10_corners 62 = .ok (.iload_n 1, 1) := by decide +kernel
theorem dX10_corners_63 : decode cX10_corners 63 = .ok (.istore_n 2, 1) := by decide +kernel
theorem dX10_corners_64 : decode cX10_corners 64 = .ok (.iconst 0, 1) := by decide +kernel
theorem dX10_corners_65 : decode cX10_corners 65 = .ok (.istore_n 3, 1) := by decide +kernel
theorem dX10_corners_66 : decode cX10_corners 66 = .ok (.aload_n 0, 1) := by decide +kernel
theorem dX10_corners_67 : decode cX10_corners 67 = .ok (.getfield 20, 3) := by decide +kernel
theorem dX10_corners_70 : decode cX10_corners 70 = .ok (.iconst 1, 1) := by decide +kernel
theorem dX10_corners_71 : decode cX10_corners 71 = .ok (.isub, 1) := by decide +kernel
theorem dX10_corners_72 : decode cX10_corners 72 = .ok (.istore 4, 2) := by decide +kernel
theorem dX10_corners_74 : decode cX10_corners 74 = .ok (.iload 4, 2) := by decide +kernel
theorem dX10_corners_76 : decode cX10_corners 76 = .ok (.ifCond .lt 66, 3) := by decide +kernel
theorem dX10_corners_79 : decode cX10_corners 79 = .ok (.aload_n 0, 1) := by decide +kernel
theorem dX10_corners_80 : decode cX10_corners 80 = .ok (.getfield 24, 3) := by decide +kernel
theorem dX10_corners_83 : decode cX10_corners 83 = .ok (.iconst 1, 1) := by decide +kernel
theorem dX10_corners_84 : decode cX10_corners 84 = .ok (.isub, 1) := by decide +kernel
theorem dX10_corners_85 : decode cX10_corners 85 = .ok (.istore 5, 2) := by decide +kernel
theorem dX10_corners_87 : decode cX10_corners 87 = .ok (.iload 5, 2) := by decide +kernel
theorem dX10_corners_89 : decode cX10_corners 89 = .ok (.ifCond .lt 47, 3) := by decide +kernel
theorem dX10_corners_92 : decode cX10_corners 92 = .ok (.aload_n 0, 1) := by decide +kernel
theorem dX10_corners_93 : decode cX10_corners 93 = .ok (.iload 4, 2) := by decide +kernel
theorem dX10_corners_95 : decode cX10_corners 95 = .ok (.iload 5, 2) := by decide +kernel
theorem dX10_corners_97 : decode cX10_corners 97 = .ok (.invokevirtual 148, 3) := by decide +kernel
theorem dX10_corners_100 : decode cX10_corners 100 = .ok (.ifCond .eq 30, 3) := by decide +kernel
theorem dX10_corners_103 : decode cX10_corners 103 = .ok (.iload_n 3, 1) := by decide +kernel
theorem dX10_corners_104 : decode cX10_corners 104 = .ok (.ifCond .eq 22, 3) := by decide +kernel
theorem dX10_corners_107 : decode cX10_corners 107 = .ok (.aload_n 0, 1) := by decide +kernel
theorem dX10_corners_108 : decode cX10_corners 108 = .ok (.iload_n 1, 1) := by decide +kernel
theorem dX10_corners_109 : decode cX10_corners 109 = .ok (.iload_n 2, 1) := by decide +kernel
theorem dX10_corners_110 : decode cX10_corners 110 = .ok (.iload 5, 2) := by decide +kernel
theorem dX10_corners_112 : decode cX10_corners 112 = .ok (.aload_n 0, 1) := by decide +kernel
theorem dX10_corners_113 : decode cX10_corners 113 = .ok (.getfield 20, 3) := by decide +kernel
theorem dX10_corners_116 : decode cX10_corners 116 = .ok (.imul, 1) := by decide +kernel
theorem dX10_corners_117 : decode cX10_corners 117 = .ok (.iload 4, 2) := by decide +kernel
theorem dX10_corners_119 : decode cX10_corners 119 = .ok (.iadd, 1) := by decide +kernel
theorem dX10_corners_120 : decode cX10_corners 120 = .ok (.invokevirtual 151, 3) := by decide +kernel
theorem dX10_corners_123 : decode cX10_corners 123 = .ok (.goto 4, 3) := by decide +kernel
theorem dX10_corners_126 : decode cX10_corners 126 = .ok (.iload_n 1, 1) := by decide +kernel
theorem dX10_corners_127 : decode cX10_corners 127 = .ok (.istore_n 1, 1) := by decide +kernel
theorem dX10_corners_128 : decode cX10_corners 128 = .ok (.iconst 1, 1) := by decide +kernel
theorem dX10_corners_129 : decode cX10_corners 129 = .ok (.istore_n 3, 1) := by decide +kernel
theorem dX10_corners_130 : decode cX10_corners 130 = .ok (.iinc 5 (-1), 3) := by decide +kernel
theorem dX10_corners_133 : decode cX10_corners 133 = .ok (.goto (-46), 3) := by decide +kernel
theorem dX10_corners_136 : decode cX10_corners 136 = .ok (.iinc 4 (-1), 3) := by decide +kernel
theorem dX10_corners_139 : decode cX10_corners 139 = .ok (.goto (-65), 3) := by decide +kernel
theorem dX10_corners_142 : decode cX10_corners 142 = .ok (.iload_n 1, 1) := by decide +kernel
theorem dX10_corners_143 : decode cX10_corners 143 = .ok (.iconst 1, 1) := by decide +kernel
theorem dX10_corners_144 : decode cX10_corners 144 = .ok (.if_icmp .le 9, 3) := by decide +kernel
theorem dX10_corners_147 : decode cX10_corners 147 = .ok (.iload_n 1, 1) := by decide +kernel
theorem dX10_corners_148 : decode cX10_corners 148 = .ok (.iconst 1, 1) := by decide +kernel
theorem dX10_corners_149 : decode cX10_corners 149 = .ok (.isub, 1) := by decide +kernel
theorem dX10_corners_150 : decode cX10_corners 150 = .ok (.goto 4, 3) := by decide +kernel
theorem dX10_corners_153 : decode cX10_corners 153 = .ok (.iload_n 1, 1) := by decide +kernel
theorem dX10_corners_154 : decode cX10_corners 154 = .ok (.ireturn, 1) := by decide +kernel
set_option maxRecDepth 20000 in
theorem ggX10_lay_X10_side : GoodIn wsX10_lay wsX10_side := goodIn_r _ [6, 7, 8, 9, 10, 11, 12, 13, 14, 15, 16, 17, 18, 19, 20, 21, 22, 23, 24, 25] rfl (by decide +kernel)
set_option maxRecDepth 20000 in
theorem gX10_lay_X10_side : GoodIn wsX10_lay (wsV RX10 155 RX10 yX10_side wsX10_side) := goodIn_app (goodIn_of _ (by decide +kernel)) ggX10_lay_X10_side
theorem dX10_lay_0 : decode cX10_lay 0 = .ok (.iload_n 1, 1) := by decide +kernel
theorem dX10_lay_1 : decode cX10_lay 1 = .ok (.istore 4, 2) := by decide +kernel
theorem dX10_lay_3 : decode cX10_lay 3 = .ok (.iload 4, 2) := by decide +kernel
theorem dX10_lay_5 : decode cX10_lay 5 = .ok (.iload_n 2, 1) := by decide +kernel
theorem dX10_lay_6 : decode cX10_lay 6 = .ok (.if_icmp .le 35, 3) := by decide +kernel
theorem dX10_lay_9 : decode cX10_lay 9 = .ok (.aload_n 0, 1) := by decide +kernel
theorem dX10_lay_10 : decode cX10_lay 10 = .ok (.aload_n 0, 1) := by decide +kernel
theorem dX10_lay_11 : decode cX10_lay 11 = .ok (.getfield 43, 3) := by decide +kernel
theorem dX10_lay_14 : decode cX10_lay 14 = .ok (.iload 4, 2) := by decide +kernel
theorem dX10_lay_16 : decode cX10_lay 16 = .ok (.iconst 2, 1) := by decide +kernel
theorem dX10_lay_17 : decode cX10_lay 17 = .ok (.isub, 1) := by decide +kernel
theorem dX10_lay_18 : decode cX10_lay 18 = .ok (.iaload, 1) := by decide +kernel
theorem dX10_lay_19 : decode cX10_lay 19 = .ok (.aload_n 0, 1) := by decide +kernel
theorem dX10_lay_20 : decode cX10_lay 20 = .ok (.getfield 43, 3) := by decide +kernel
theorem dX10_lay_23 : decode cX10_lay 23 = .ok (.iload 4, 2) := by decide +kernel
theorem dX10_lay_25 : decode cX10_lay 25 = .ok (.iconst 1, 1) := by decide +kernel
theorem dX10_lay_26 : decode cX10_lay 26 = .ok (.isub, 1) := by decide +kernel
theorem dX10_lay_27 : decode cX10_lay 27 = .ok (.iaload, 1) := by decide +kernel
theorem dX10_lay_28 : decode cX10_lay 28 = .ok (.iload_n 3, 1) := by decide +kernel
theorem dX10_lay_29 : decode cX10_lay 29 = .ok (.invokevirtual 155, 3) := by decide +kernel
theorem dX10_lay_32 : decode cX10_lay 32 = .ok (.ifCond .gt 9, 3) := by decide +kernel
theorem dX10_lay_35 : decode cX10_lay 35 = .ok (.iinc 4 (-1), 3) := by decide +kernel
theorem dX10_lay_38 : decode cX10_lay 38 = .ok (.goto (-35), 3) := by decide +kernel
theorem dX10_lay_41 : decode cX10_lay 41 = .ok (.aload_n 0, 1) := by decide +kernel
theorem dX10_lay_42 : decode cX10_lay 42 = .ok (.getfield 43, 3) := by decide +kernel
theorem dX10_lay_45 : decode cX10_lay 45 = .ok (.iload 4, 2) := by decide +kernel
theorem dX10_lay_47 : decode cX10_lay 47 = .ok (.iload_n 3, 1) := by decide +kernel
theorem dX10_lay_48 : decode cX10_lay 48 = .ok (.iastore, 1) := by decide +kernel
theorem dX10_lay_49 : decode cX10_lay 49 = .ok (.iload 4, 2) := by decide +kernel
theorem dX10_lay_51 : decode cX10_lay 51 = .ok (.iconst 1, 1) := by decide +kernel
theorem dX10_lay_52 : decode cX10_lay 52 = .ok (.iadd, 1) := by decide +kernel
theorem dX10_lay_53 : decode cX10_lay 53 = .ok (.ireturn, 1) := by decide +kernel
set_option maxRecDepth 20000 in
theorem ggX10_inHull_X10_side : GoodIn wsX10_inHull wsX10_side := goodIn_r _ [7, 2, 11, 12, 13, 14, 15, 16, 17, 18, 19, 20, 21, 22, 23, 24, 25, 26, 27, 28] rfl (by decide +kernel)
set_option maxRecDepth 20000 in
theorem gX10_inHull_X10_side : GoodIn wsX10_inHull (wsV RX10 155 RX10 yX10_side wsX10_side) := goodIn_app (goodIn_of _ (by decide +kernel)) ggX10_inHull_X10_side
set_option maxRecDepth 20000 in
theorem ggX10_inHull_X10_in : GoodIn wsX10_inHull wsX10_in := goodIn_r _ [10] rfl (by decide +kernel)
set_option maxRecDepth 20000 in
theorem gX10_inHull_X10_in : GoodIn wsX10_inHull (va_wsS RX10 64 yX10_in wsX10_in) := goodIn_app (goodIn_of _ (by decide +kernel)) ggX10_inHull_X10_in
theorem dX10_inHull_0 : decode cX10_inHull 0 = .ok (.iload_n 1, 1) := by decide +kernel
theorem dX10_inHull_1 : decode cX10_inHull 1 = .ok (.iconst 2, 1) := by decide +kernel
theorem dX10_inHull_2 : decode cX10_inHull 2 = .ok (.if_icmp .ge 24, 3) := by decide +kernel
theorem dX10_inHull_5 : decode cX10_inHull 5 = .ok (.iload_n 1, 1) := by decide +kernel
theorem dX10_inHull_6 : decode cX10_inHull 6 = .ok (.iconst 1, 1) := by decide +kernel
theorem dX10_inHull_7 : decode cX10_inHull 7 = .ok (.if_icmp .ne 17, 3) := by decide +kernel
theorem dX10_inHull_10 : decode cX10_inHull 10 = .ok (.aload_n 0, 1) := by decide +kernel
theorem dX10_inHull_11 : decode cX10_inHull 11 = .ok (.getfield 43, 3) := by decide +kernel
theorem dX10_inHull_14 : decode cX10_inHull 14 = .ok (.iconst 0, 1) := by decide +kernel
theorem dX10_inHull_15 : decode cX10_inHull 15 = .ok (.iaload, 1) := by decide +kernel
theorem dX10_inHull_16 : decode cX10_inHull 16 = .ok (.iload_n 2, 1) := by decide +kernel
theorem dX10_inHull_17 : decode cX10_inHull 17 = .ok (.if_icmp .ne 7, 3) := by decide +kernel
theorem dX10_inHull_20 : decode cX10_inHull 20 = .ok (.iconst 1, 1) := by decide +kernel
theorem dX10_inHull_21 : decode cX10_inHull 21 = .ok (.goto 4, 3) := by decide +kernel
theorem dX10_inHull_24 : decode cX10_inHull 24 = .ok (.iconst 0, 1) := by decide +kernel
theorem dX10_inHull_25 : decode cX10_inHull 25 = .ok (.ireturn, 1) := by decide +kernel
theorem dX10_inHull_26 : decode cX10_inHull 26 = .ok (.iconst 1, 1) := by decide +kernel
theorem dX10_inHull_27 : decode cX10_inHull 27 = .ok (.istore_n 3, 1) := by decide +kernel
theorem dX10_inHull_28 : decode cX10_inHull 28 = .ok (.iconst 0, 1) := by decide +kernel
theorem dX10_inHull_29 : decode cX10_inHull 29 = .ok (.istore 4, 2) := by decide +kernel
theorem dX10_inHull_31 : decode cX10_inHull 31 = .ok (.iload 4, 2) := by decide +kernel
theorem dX10_inHull_33 : decode cX10_inHull 33 = .ok (.iload_n 1, 1) := by decide +kernel
theorem dX10_inHull_34 : decode cX10_inHull 34 = .ok (.if_icmp .ge 45, 3) := by decide +kernel
theorem dX10_inHull_37 : decode cX10_inHull 37 = .ok (.iload_n 3, 1) := by decide +kernel
theorem dX10_inHull_38 : decode cX10_inHull 38 = .ok (.ifCond .eq 33, 3) := by decide +kernel
theorem dX10_inHull_41 : decode cX10_inHull 41 = .ok (.aload_n 0, 1) := by decide +kernel
theorem dX10_inHull_42 : decode cX10_inHull 42 = .ok (.aload_n 0, 1) := by decide +kernel
theorem dX10_inHull_43 : decode cX10_inHull 43 = .ok (.getfield 43, 3) := by decide +kernel
theorem dX10_inHull_46 : decode cX10_inHull 46 = .ok (.iload 4, 2) := by decide +kernel
theorem dX10_inHull_48 : decode cX10_inHull 48 = .ok (.iaload, 1) := by decide +kernel
theorem dX10_inHull_49 : decode cX10_inHull 49 = .ok (.aload_n 0, 1) := by decide +kernel
theorem dX10_inHull_50 : decode cX10_inHull 50 = .ok (.getfield 43, 3) := by decide +kernel
theorem dX10_inHull_53 : decode cX10_inHull 53 = .ok (.iload 4, 2) := by decide +kernel
theorem dX10_inHull_55 : decode cX10_inHull 55 = .ok (.iconst 1, 1) := by decide +kernel
theorem dX10_inHull_56 : decode cX10_inHull 56 = .ok (.iadd, 1) := by decide +kernel
theorem dX10_inHull_57 : decode cX10_inHull 57 = .ok (.iload_n 1, 1) := by decide +kernel
theorem dX10_inHull_58 : decode cX10_inHull 58 = .ok (.irem, 1) := by decide +kernel
theorem dX10_inHull_59 : decode cX10_inHull 59 = .ok (.iaload, 1) := by decide +kernel
theorem dX10_inHull_60 : decode cX10_inHull 60 = .ok (.iload_n 2, 1) := by decide +kernel
theorem dX10_inHull_61 : decode cX10_inHull 61 = .ok (.invokevirtual 155, 3) := by decide +kernel
theorem dX10_inHull_64 : decode cX10_inHull 64 = .ok (.ifCond .lt 7, 3) := by decide +kernel
theorem dX10_inHull_67 : decode cX10_inHull 67 = .ok (.iconst 1, 1) := by decide +kernel
theorem dX10_inHull_68 : decode cX10_inHull 68 = .ok (.goto 4, 3) := by decide +kernel
theorem dX10_inHull_71 : decode cX10_inHull 71 = .ok (.iconst 0, 1) := by decide +kernel
theorem dX10_inHull_72 : decode cX10_inHull 72 = .ok (.istore_n 3, 1) := by decide +kernel
theorem dX10_inHull_73 : decode cX10_inHull 73 = .ok (.iinc 4 1, 3) := by decide +kernel
theorem dX10_inHull_76 : decode cX10_inHull 76 = .ok (.goto (-45), 3) := by decide +kernel
theorem dX10_inHull_79 : decode cX10_inHull 79 = .ok (.iload_n 1, 1) := by decide +kernel
theorem dX10_inHull_80 : decode cX10_inHull 80 = .ok (.iconst 2, 1) := by decide +kernel
theorem dX10_inHull_81 : decode cX10_inHull 81 = .ok (.if_icmp .ne 116, 3) := by decide +kernel
theorem dX10_inHull_84 : decode cX10_inHull 84 = .ok (.aload_n 0, 1) := by decide +kernel
theorem dX10_inHull_85 : decode cX10_inHull 85 = .ok (.getfield 43, 3) := by decide +kernel
theorem dX10_inHull_88 : decode cX10_inHull 88 = .ok (.iconst 0, 1) := by decide +kernel
theorem dX10_inHull_89 : decode cX10_inHull 89 = .ok (.iaload, 1) := by decide +kernel
theorem dX10_inHull_90 : decode cX10_inHull 90 = .ok (.istore 4, 2) := by decide +kernel
theorem dX10_inHull_92 : decode cX10_inHull 92 = .ok (.aload_n 0, 1) := by decide +kernel
theorem dX10_inHull_93 : decode cX10_inHull 93 = .ok (.getfield 43, 3) := by decide +kernel
theorem dX10_inHull_96 : decode cX10_inHull 96 = .ok (.iconst 1, 1) := by decide +kernel
theorem dX10_inHull_97 : decode cX10_inHull 97 = .ok (.iaload, 1) := by decide +kernel
theorem dX10_inHull_98 : decode cX10_inHull 98 = .ok (.istore 5, 2) := by decide +kernel
theorem dX10_inHull_100 : decode cX10_inHull 100 = .ok (.iload_n 3, 1) := by decide +kernel
theorem dX10_inHull_101 : decode cX10_inHull 101 = .ok (.ifCond .eq 94, 3) := by decide +kernel
theorem dX10_inHull_104 : decode cX10_inHull 104 = .ok (.iload_n 2, 1) := by decide +kernel
theorem dX10_inHull_105 : decode cX10_inHull 105 = .ok (.aload_n 0, 1) := by decide +kernel
theorem dX10_inHull_106 : decode cX10_inHull 106 = .ok (.getfield 20, 3) := by decide +kernel
theorem dX10_inHull_109 : decode cX10_inHull 109 = .ok (.irem, 1) := by decide +kernel
theorem dX10_inHull_110 : decode cX10_inHull 110 = .ok (.i2l, 1) := by decide +kernel
theorem dX10_inHull_111 : decode cX10_inHull 111 = .ok (.iload 4, 2) := by decide +kernel
theorem dX10_inHull_113 : decode cX10_inHull 113 = .ok (.aload_n 0, 1) := by decide +kernel
theorem dX10_inHull_114 : decode cX10_inHull 114 = .ok (.getfield 20, 3) := by decide +kernel
theorem dX10_inHull_117 : decode cX10_inHull 117 = .ok (.irem, 1) := by decide +kernel
theorem dX10_inHull_118 : decode cX10_inHull 118 = .ok (.i2l, 1) := by decide +kernel
theorem dX10_inHull_119 : decode cX10_inHull 119 = .ok (.iload 5, 2) := by decide +kernel
theorem dX10_inHull_121 : decode cX10_inHull 121 = .ok (.aload_n 0, 1) := by decide +kernel
theorem dX10_inHull_122 : decode cX10_inHull 122 = .ok (.getfield 20, 3) := by decide +kernel
theorem dX10_inHull_125 : decode cX10_inHull 125 = .ok (.irem, 1) := by decide +kernel
theorem dX10_inHull_126 : decode cX10_inHull 126 = .ok (.i2l, 1) := by decide +kernel
theorem dX10_inHull_127 : decode cX10_inHull 127 = .ok (.invokestatic 64, 3) := by decide +kernel
theorem dX10_inHull_130 : decode cX10_inHull 130 = .ok (.ifCond .eq 65, 3) := by decide +kernel
theorem dX10_inHull_133 : decode cX10_inHull 133 = .ok (.iload_n 2, 1) := by decide +kernel
theorem dX10_inHull_134 : decode cX10_inHull 134 = .ok (.aload_n 0, 1) := by decide +kernel
theorem dX10_inHull_135 : decode cX10_inHull 135 = .ok (.getfield 20, 3) := by decide +kernel
theorem dX10_inHull_138 : decode cX10_inHull 138 = .ok (.idiv, 1) := by decide +kernel
theorem dX10_inHull_139 : decode cX10_inHull 139 = .ok (.i2l, 1) := by decide +kernel
theorem dX10_inHull_140 : decode cX10_inHull 140 = .ok (.iload 4, 2) := by decide +kernel
theorem dX10_inHull_142 : decode cX10_inHull 142 = .ok (.aload_n 0, 1) := by decide +kernel
theorem dX10_inHull_143 : decode cX10_inHull 143 = .ok (.getfield 20, 3) := by decide +kernel
theorem dX10_inHull_146 : decode cX10_inHull 146 = .ok (.idiv, 1) := by decide +kernel
theorem dX10_inHull_147 : decode cX10_inHull 147 = .ok (.i2l, 1) := by decide +kernel
theorem dX10_inHull_148 : decode cX10_inHull 148 = .ok (.iload 5, 2) := by decide +kernel
theorem dX10_inHull_150 : decode cX10_inHull 150 = .ok (.aload_n 0, 1) := by decide +kernel
theorem dX10_inHull_151 : decode cX10_inHull 151 = .ok (.getfield 20, 3) := by decide +kernel
theorem dX10_inHull_154 : decode cX10_inHull 154 = .ok (.idiv, 1) := by decide +kernel
theorem dX10_inHull_155 : decode cX10_inHull 155 = .ok (.i2l, 1) := by decide +kernel
theorem dX10_inHull_156 : decode cX10_inHull 156 = .ok (.invokestatic 64, 3) := by decide +kernel
theorem dX10_inHull_159 : decode cX10_inHull 159 = .ok (.ifCond .ne 32, 3) := by decide +kernel
theorem dX10_inHull_162 : decode cX10_inHull 162 = .ok (.iload_n 2, 1) := by decide +kernel
theorem dX10_inHull_163 : decode cX10_inHull 163 = .ok (.aload_n 0, 1) := by decide +kernel
theorem dX10_inHull_164 : decode cX10_inHull 164 = .ok (.getfield 20, 3) := by decide +kernel
theorem dX10_inHull_167 : decode cX10_inHull 167 = .ok (.idiv, 1) := by decide +kernel
theorem dX10_inHull_168 : decode cX10_inHull 168 = .ok (.i2l, 1) := by decide +kernel
theorem dX10_inHull_169 : decode cX10_inHull 169 = .ok (.iload 5, 2) := by decide +kernel
theorem dX10_inHull_171 : decode cX10_inHull 171 = .ok (.aload_n 0, 1) := by decide +kernel
theorem dX10_inHull_172 : decode cX10_inHull 172 = .ok (.getfield 20, 3) := by decide +kernel
theorem dX10_inHull_175 : decode cX10_inHull 175 = .ok (.idiv, 1) := by decide +kernel
theorem dX10_inHull_176 : decode cX10_inHull 176 = .ok (.i2l, 1) := by decide +kernel
theorem dX10_inHull_177 : decode cX10_inHull 177 = .ok (.iload 4, 2) := by decide +kernel
theorem dX10_inHull_179 : decode cX10_inHull 179 = .ok (.aload_n 0, 1) := by decide +kernel
theorem dX10_inHull_180 : decode cX10_inHull 180 = .ok (.getfield 20, 3) := by decide +kernel
theorem dX10_inHull_183 : decode cX10_inHull 183 = .ok (.idiv, 1) := by decide +kernel
theorem dX10_inHull_184 : decode cX10_inHull 184 = .ok (.i2l, 1) := by decide +kernel
theorem dX10_inHull_185 : decode cX10_inHull 185 = .ok (.invokestatic 64, 3) := by decide +kernel
theorem dX10_inHull_188 : decode cX10_inHull 188 = .ok (.ifCond .eq 7, 3) := by decide +kernel
theorem dX10_inHull_191 : decode cX10_inHull 191 = .ok (.iconst 1, 1) := by decide +kernel
theorem dX10_inHull_192 : decode cX10_inHull 192 = .ok (.goto 4, 3) := by decide +kernel
theorem dX10_inHull_195 : decode cX10_inHull 195 = .ok (.iconst 0, 1) := by decide +kernel
theorem dX10_inHull_196 : decode cX10_inHull 196 = .ok (.istore_n 3, 1) := by decide +kernel
theorem dX10_inHull_197 : decode cX10_inHull 197 = .ok (.iload_n 3, 1) := by decide +kernel
theorem dX10_inHull_198 : decode cX10_inHull 198 = .ok (.ireturn, 1) := by decide +kernel
set_option maxRecDepth 20000 in
theorem ggX10_lacks_X10_corners : GoodIn wsX10_lacks wsX10_corners := goodIn_r _ [6, 7, 8, 9, 10, 11, 5, 12, 1, 13, 14, 15, 16, 17, 18, 19, 20, 21, 22, 23, 24, 25, 26, 27, 28, 37, 38, 39, 40, 41, 42, 43, 44, 45, 46, 47, 48, 49, 50, 51, 52, 53, 54] rfl (by decide +kernel)
set_option maxRecDepth 20000 in
theorem gX10_lacks_X10_corners : GoodIn wsX10_lacks (wsV RX10 158 RX10 yX10_corners wsX10_corners) := goodIn_app (goodIn_of _ (by decide +kernel)) ggX10_lacks_X10_corners
set_option maxRecDepth 20000 in
theorem ggX10_lacks_X10_fields : GoodIn wsX10_lacks wsX10_fields := goodIn_r _ [32, 7, 8, 37, 38, 39, 40, 41, 42, 43, 44, 45, 46, 47, 48, 49, 50, 51, 52, 53, 54] rfl (by decide +kernel)
set_option maxRecDepth 20000 in
theorem gX10_lacks_X10_fields : GoodIn wsX10_lacks (wsV RX10 117 RX10 yX10_fields wsX10_fields) := goodIn_app (goodIn_of _ (by decide +kernel)) ggX10_lacks_X10_fields
set_option maxRecDepth 20000 in
theorem ggX10_lacks_X10_inHull : GoodIn wsX10_lacks wsX10_inHull := goodIn_r _ [36, 24, 7, 25, 26, 27, 5, 28, 17, 18, 19, 37, 38, 39, 40, 41, 42, 43, 44, 45, 46, 47, 48, 49, 50, 51, 52, 53, 54] rfl (by decide +kernel)
set_option maxRecDepth 20000 in
theorem gX10_lacks_X10_inHull : GoodIn wsX10_lacks (wsV RX10 161 RX10 yX10_inHull wsX10_inHull) := goodIn_app (goodIn_of _ (by decide +kernel)) ggX10_lacks_X10_inHull
theorem dX10_lacks_0 : decode cX10_lacks 0 = .ok (.aload_n 0, 1) := by decide +kernel
theorem dX10_lacks_1 : decode cX10_lacks 1 = .ok (.invokevirtual 158, 3) := by decide +kernel
theorem dX10_lacks_4 : decode cX10_lacks 4 = .ok (.istore_n 1, 1) := by decide +kernel
theorem dX10_lacks_5 : decode cX10_lacks 5 = .ok (.iconst 0, 1) := by decide +kernel
theorem dX10_lacks_6 : decode cX10_lacks 6 = .ok (.istore_n 2, 1) := by decide +kernel
theorem dX10_lacks_7 : decode cX10_lacks 7 = .ok (.iconst 0, 1) := by decide +kernel
theorem dX10_lacks_8 : decode cX10_lacks 8 = .ok (.istore_n 3, 1) := by decide +kernel
theorem dX10_lacks_9 : decode cX10_lacks 9 = .ok (.iload_n 3, 1) := by decide +kernel
theorem dX10_lacks_10 : decode cX10_lacks 10 = .ok (.aload_n 0, 1) := by decide +kernel
theorem dX10_lacks_11 : decode cX10_lacks 11 = .ok (.invokevirtual 117, 3) := by decide +kernel
theorem dX10_lacks_14 : decode cX10_lacks 14 = .ok (.if_icmp .ge 35, 3) := by decide +kernel
theorem dX10_lacks_17 : decode cX10_lacks 17 = .ok (.iload_n 2, 1) := by decide +kernel
theorem dX10_lacks_18 : decode cX10_lacks 18 = .ok (.aload_n 0, 1) := by decide +kernel
theorem dX10_lacks_19 : decode cX10_lacks 19 = .ok (.getfield 27, 3) := by decide +kernel
theorem dX10_lacks_22 : decode cX10_lacks 22 = .ok (.iload_n 3, 1) := by decide +kernel
theorem dX10_lacks_23 : decode cX10_lacks 23 = .ok (.baload, 1) := by decide +kernel
theorem dX10_lacks_24 : decode cX10_lacks 24 = .ok (.ifCond .ne 16, 3) := by decide +kernel
theorem dX10_lacks_27 : decode cX10_lacks 27 = .ok (.aload_n 0, 1) := by decide +kernel
theorem dX10_lacks_28 : decode cX10_lacks 28 = .ok (.iload_n 1, 1) := by decide +kernel
theorem dX10_lacks_29 : decode cX10_lacks 29 = .ok (.iload_n 3, 1) := by decide +kernel
theorem dX10_lacks_30 : decode cX10_lacks 30 = .ok (.invokevirtual 161, 3) := by decide +kernel
theorem dX10_lacks_33 : decode cX10_lacks 33 = .ok (.ifCond .eq 7, 3) := by decide +kernel
theorem dX10_lacks_36 : decode cX10_lacks 36 = .ok (.iconst 1, 1) := by decide +kernel
theorem dX10_lacks_37 : decode cX10_lacks 37 = .ok (.goto 4, 3) := by decide +kernel
theorem dX10_lacks_40 : decode cX10_lacks 40 = .ok (.iconst 0, 1) := by decide +kernel
theorem dX10_lacks_41 : decode cX10_lacks 41 = .ok (.iadd, 1) := by decide +kernel
theorem dX10_lacks_42 : decode cX10_lacks 42 = .ok (.istore_n 2, 1) := by decide +kernel
theorem dX10_lacks_43 : decode cX10_lacks 43 = .ok (.iinc 3 1, 3) := by decide +kernel
theorem dX10_lacks_46 : decode cX10_lacks 46 = .ok (.goto (-37), 3) := by decide +kernel
theorem dX10_lacks_49 : decode cX10_lacks 49 = .ok (.iload_n 2, 1) := by decide +kernel
theorem dX10_lacks_50 : decode cX10_lacks 50 = .ok (.ireturn, 1) := by decide +kernel
set_option maxRecDepth 20000 in
theorem ggX10_heap_X10_many : GoodIn wsX10_heap wsX10_many := goodIn_r _ [6, 7, 8, 9, 10, 5, 11, 12, 13, 89, 90, 91, 92, 93, 94, 95, 96, 97, 98, 99, 100, 101, 102, 103, 104, 105, 106] rfl (by decide +kernel)
set_option maxRecDepth 20000 in
theorem gX10_heap_X10_many : GoodIn wsX10_heap (wsV RX10 145 RX10 yX10_many wsX10_many) := goodIn_app (goodIn_of _ (by decide +kernel)) ggX10_heap_X10_many
set_option maxRecDepth 20000 in
theorem ggX10_heap_X10_parts : GoodIn wsX10_heap wsX10_parts := goodIn_r _ [17, 18, 19, 20, 21, 5, 22, 7, 23, 8, 9, 10, 11, 12, 13, 24, 25, 26, 27, 28, 29, 30, 31, 32, 33, 34, 89, 90, 91, 92, 93, 94, 95, 96, 97, 98, 99, 100, 101, 102, 103, 104, 105, 106] rfl (by decide +kernel)
set_option maxRecDepth 20000 in
theorem gX10_heap_X10_parts : GoodIn wsX10_heap (wsV RX10 164 RX10 yX10_parts wsX10_parts) := goodIn_app (goodIn_of _ (by decide +kernel)) ggX10_heap_X10_parts
set_option maxRecDepth 20000 in
theorem ggX10_heap_X10_holes : GoodIn wsX10_heap wsX10_holes := goodIn_r _ [38, 23, 7, 18, 8, 9, 10, 5, 11, 12, 13, 19, 20, 21, 22, 24, 25, 26, 27, 28, 29, 30, 31, 32, 33, 34, 39, 40, 41, 42, 43, 44, 45, 46, 89, 90, 91, 92, 93, 94, 95, 96, 97, 98, 99, 100, 101, 102, 103, 104, 105, 106] rfl (by decide +kernel)
set_option maxRecDepth 20000 in
theorem gX10_heap_X10_holes : GoodIn wsX10_heap (wsV RX10 167 RX10 yX10_holes wsX10_holes) := goodIn_app (goodIn_of _ (by decide +kernel)) ggX10_heap_X10_holes
set_option maxRecDepth 20000 in
theorem ggX10_heap_X10_rims : GoodIn wsX10_heap wsX10_rims := goodIn_r _ [50, 12, 7, 8, 9, 10, 5, 11, 13, 51, 52, 53, 54, 55, 56, 57, 58, 59, 60, 61, 62, 63, 64, 65, 66, 67, 89, 90, 91, 92, 93, 94, 95, 96, 97, 98, 99, 100, 101, 102, 103, 104, 105, 106] rfl (by decide +kernel)
set_option maxRecDepth 20000 in
theorem gX10_heap_X10_rims : GoodIn wsX10_heap (wsV RX10 170 RX10 yX10_rims wsX10_rims) := goodIn_app (goodIn_of _ (by decide +kernel)) ggX10_heap_X10_rims
set_option maxRecDepth 20000 in
theorem ggX10_heap_X10_lacks : GoodIn wsX10_heap wsX10_lacks := goodIn_r _ [71, 7, 72, 73, 74, 5, 75, 12, 13, 57, 58, 59, 60, 61, 62, 63, 64, 65, 66, 67, 76, 77, 78, 79, 80, 81, 82, 83, 84, 8, 9, 10, 11, 85, 86, 87, 88, 89, 90, 91, 92, 93, 94, 95, 96, 97, 98, 99, 100, 101, 102, 103, 104, 105, 106] rfl (by decide +kernel)
set_option maxRecDepth 20000 in
theorem gX10_heap_X10_lacks : GoodIn wsX10_heap (wsV RX10 173 RX10 yX10_lacks wsX10_lacks) := goodIn_app (goodIn_of _ (by decide +kernel)) ggX10_heap_X10_lacks
theorem dX10_heap_0 : decode cX10_heap 0 = .ok (.aload_n 0, 1) := by decide +kernel
theorem dX10_heap_1 : decode cX10_heap 1 = .ok (.iconst 0, 1) := by decide +kernel
theorem dX10_heap_2 : decode cX10_heap 2 = .ok (.putfield 52, 3) := by decide +kernel
theorem dX10_heap_5 : decode cX10_heap 5 = .ok (.iload_n 1, 1) := by decide +kernel
theorem dX10_heap_6 : decode cX10_heap 6 = .ok (.tableswitch 59 0 4 #[34, 39, 44, 49, 54], 34) := by decide +kernel
theorem dX10_heap_40 : decode cX10_heap 40 = .ok (.aload_n 0, 1) := by decide +kernel
theorem dX10_heap_41 : decode cX10_heap 41 = .ok (.invokevirtual 145, 3) := by decide +kernel
theorem dX10_heap_44 : decode cX10_heap 44 = .ok (.ireturn, 1) := by decide +kernel
theorem dX10_heap_45 : decode cX10_heap 45 = .ok (.aload_n 0, 1) := by decide +kernel
theorem dX10_heap_46 : decode cX10_heap 46 = .ok (.invokevirtual 164, 3) := by decide +kernel
theorem dX10_heap_49 : decode cX10_heap 49 = .ok (.ireturn, 1) := by decide +kernel
theorem dX10_heap_50 : decode cX10_heap 50 = .ok (.aload_n 0, 1) := by decide +kernel
theorem dX10_heap_51 : decode cX10_heap 51 = .ok (.invokevirtual 167, 3) := by decide +kernel
theorem dX10_heap_54 : decode cX10_heap 54 = .ok (.ireturn, 1) := by decide +kernel
theorem dX10_heap_55 : decode cX10_heap 55 = .ok (.aload_n 0, 1) := by decide +kernel
theorem dX10_heap_56 : decode cX10_heap 56 = .ok (.invokevirtual 170, 3) := by decide +kernel
theorem dX10_heap_59 : decode cX10_heap 59 = .ok (.ireturn, 1) := by decide +kernel
theorem dX10_heap_60 : decode cX10_heap 60 = .ok (.aload_n 0, 1) := by decide +kernel
theorem dX10_heap_61 : decode cX10_heap 61 = .ok (.invokevirtual 173, 3) := by decide +kernel
theorem dX10_heap_64 : decode cX10_heap 64 = .ok (.ireturn, 1) := by decide +kernel
theorem dX10_heap_65 : decode cX10_heap 65 = .ok (.sipush (-1002), 3) := by decide +kernel
theorem dX10_heap_68 : decode cX10_heap 68 = .ok (.ireturn, 1) := by decide +kernel
set_option maxRecDepth 20000 in
theorem ggX10_hasStairs_X10_isOf : GoodIn wsX10_hasStairs wsX10_isOf := goodIn_r _ [7, 8, 2, 9, 10, 11, 6, 12, 1, 13, 14, 15, 16, 17, 18, 19, 20, 21, 22, 23, 24, 25, 26, 27, 28, 29, 30, 31, 32, 33] rfl (by decide +kernel)
set_option maxRecDepth 20000 in
theorem gX10_hasStairs_X10_isOf : GoodIn wsX10_hasStairs (wsV RX10 148 RX10 yX10_isOf wsX10_isOf) := goodIn_app (goodIn_of _ (by decide +kernel)) ggX10_hasStairs_X10_isOf
theorem dX10_hasStairs_0 : decode cX10_hasStairs 0 = .ok (.iconst 1, 1) := by decide +kernel
theorem dX10_hasStairs_1 : decode cX10_hasStairs 1 = .ok (.istore_n 1, 1) := by decide +kernel
theorem dX10_hasStairs_2 : decode cX10_hasStairs 2 = .ok (.iconst 0, 1) := by decide +kernel
theorem dX10_hasStairs_3 : decode cX10_hasStairs 3 = .ok (.istore_n 2, 1) := by decide +kernel
theorem dX10_hasStairs_4 : decode cX10_hasStairs 4 = .ok (.iload_n 2, 1) := by decide +kernel
theorem dX10_hasStairs_5 : decode cX10_hasStairs 5 = .ok (.iconst 2, 1) := by decide +kernel
theorem dX10_hasStairs_6 : decode cX10_hasStairs 6 = .ok (.if_icmp .ge 154, 3) := by decide +kernel
theorem dX10_hasStairs_9 : decode cX10_hasStairs 9 = .ok (.iconst 0, 1) := by decide +kernel
theorem dX10_hasStairs_10 : decode cX10_hasStairs 10 = .ok (.istore_n 3, 1) := by decide +kernel
theorem dX10_hasStairs_11 : decode cX10_hasStairs 11 = .ok (.iload_n 3, 1) := by decide +kernel
theorem dX10_hasStairs_12 : decode cX10_hasStairs 12 = .ok (.iload_n 2, 1) := by decide +kernel
theorem dX10_hasStairs_13 : decode cX10_hasStairs 13 = .ok (.ifCond .ne 10, 3) := by decide +kernel
theorem dX10_hasStairs_16 : decode cX10_hasStairs 16 = .ok (.aload_n 0, 1) := by decide +kernel
theorem dX10_hasStairs_17 : decode cX10_hasStairs 17 = .ok (.getfield 24, 3) := by decide +kernel
theorem dX10_hasStairs_20 : decode cX10_hasStairs 20 = .ok (.goto 7, 3) := by decide +kernel
theorem dX10_hasStairs_23 : decode cX10_hasStairs 23 = .ok (.aload_n 0, 1) := by decide +kernel
theorem dX10_hasStairs_24 : decode cX10_hasStairs 24 = .ok (.getfield 20, 3) := by decide +kernel
theorem dX10_hasStairs_27 : decode cX10_hasStairs 27 = .ok (.if_icmp .ge 127, 3) := by decide +kernel
theorem dX10_hasStairs_30 : decode cX10_hasStairs 30 = .ok (.iconst 0, 1) := by decide +kernel
theorem dX10_hasStairs_31 : decode cX10_hasStairs 31 = .ok (.istore 4, 2) := by decide +kernel
theorem dX10_hasStairs_33 : decode cX10_hasStairs 33 = .ok (.iconst 0, 1) := by decide +kernel
theorem dX10_hasStairs_34 : decode cX10_hasStairs 34 = .ok (.istore 5, 2) := by decide +kernel
theorem dX10_hasStairs_36 : decode cX10_hasStairs 36 = .ok (.iload 5, 2) := by decide +kernel
theorem dX10_hasStairs_38 : decode cX10_hasStairs 38 = .ok (.iload_n 2, 1) := by decide +kernel
theorem dX10_hasStairs_39 : decode cX10_hasStairs 39 = .ok (.ifCond .ne 10, 3) := by decide +kernel
theorem dX10_hasStairs_42 : decode cX10_hasStairs 42 = .ok (.aload_n 0, 1) := by decide +kernel
theorem dX10_hasStairs_43 : decode cX10_hasStairs 43 = .ok (.getfield 20, 3) := by decide +kernel
theorem dX10_hasStairs_46 : decode cX10_hasStairs 46 = .ok (.goto 7, 3) := by decide +kernel
theorem dX10_hasStairs_49 : decode cX10_hasStairs 49 = .ok (.aload_n 0, 1) := by decide +kernel
theorem dX10_hasStairs_50 : decode cX10_hasStairs 50 = .ok (.getfield 24, 3) := by decide +kernel
theorem dX10_hasStairs_53 : decode cX10_hasStairs 53 = .ok (.if_icmp .ge 79, 3) := by decide +kernel
theorem dX10_hasStairs_56 : decode cX10_hasStairs 56 = .ok (.iload_n 2, 1) := by decide +kernel
theorem dX10_hasStairs_57 : decode cX10_hasStairs 57 = .ok (.ifCond .ne 13, 3) := by decide +kernel
theorem dX10_hasStairs_60 : decode cX10_hasStairs 60 = .ok (.aload_n 0, 1) := by decide +kernel
theorem dX10_hasStairs_61 : decode cX10_hasStairs 61 = .ok (.iload 5, 2) := by decide +kernel
theorem dX10_hasStairs_63 : decode cX10_hasStairs 63 = .ok (.iload_n 3, 1) := by decide +kernel
theorem dX10_hasStairs_64 : decode cX10_hasStairs 64 = .ok (.invokevirtual 148, 3) := by decide +kernel
theorem dX10_hasStairs_67 : decode cX10_hasStairs 67 = .ok (.goto 10, 3) := by decide +kernel
theorem dX10_hasStairs_70 : decode cX10_hasStairs 70 = .ok (.aload_n 0, 1) := by decide +kernel
theorem dX10_hasStairs_71 : decode cX10_hasStairs 71 = .ok (.iload_n 3, 1) := by decide +kernel
theorem dX10_hasStairs_72 : decode cX10_hasStairs 72 = .ok (.iload 5, 2) := by decide +kernel
theorem dX10_hasStairs_74 : decode cX10_hasStairs 74 = .ok (.invokevirtual 148, 3) := by decide +kernel
theorem dX10_hasStairs_77 : decode cX10_hasStairs 77 = .ok (.istore 6, 2) := by decide +kernel
theorem dX10_hasStairs_79 : decode cX10_hasStairs 79 = .ok (.iload_n 2, 1) := by decide +kernel
theorem dX10_hasStairs_80 : decode cX10_hasStairs 80 = .ok (.ifCond .ne 15, 3) := by decide +kernel
theorem dX10_hasStairs_83 : decode cX10_hasStairs 83 = .ok (.aload_n 0, 1) := by decide +kernel
theorem dX10_hasStairs_84 : decode cX10_hasStairs 84 = .ok (.iload 5, 2) := by decide +kernel
theorem dX10_hasStairs_86 : decode cX10_hasStairs 86 = .ok (.iconst 1, 1) := by decide +kernel
theorem dX10_hasStairs_87 : decode cX10_hasStairs 87 = .ok (.isub, 1) := by decide +kernel
theorem dX10_hasStairs_88 : decode cX10_hasStairs 88 = .ok (.iload_n 3, 1) := by decide +kernel
theorem dX10_hasStairs_89 : decode cX10_hasStairs 89 = .ok (.invokevirtual 148, 3) := by decide +kernel
theorem dX10_hasStairs_92 : decode cX10_hasStairs 92 = .ok (.goto 12, 3) := by decide +kernel
theorem dX10_hasStairs_95 : decode cX10_hasStairs 95 = .ok (.aload_n 0, 1) := by decide +kernel
theorem dX10_hasStairs_96 : decode cX10_hasStairs 96 = .ok (.iload_n 3, 1) := by decide +kernel
theorem dX10_hasStairs_97 : decode cX10_hasStairs 97 = .ok (.iload 5, 2) := by decide +kernel
theorem dX10_hasStairs_99 : decode cX10_hasStairs 99 = .ok (.iconst 1, 1) := by decide +kernel
theorem dX10_hasStairs_100 : decode cX10_hasStairs 100 = .ok (.isub, 1) := by decide +kernel
theorem dX10_hasStairs_101 : decode cX10_hasStairs 101 = .ok (.invokevirtual 148, 3) := by decide +kernel
theorem dX10_hasStairs_104 : decode cX10_hasStairs 104 = .ok (.istore 7, 2) := by decide +kernel
theorem dX10_hasStairs_106 : decode cX10_hasStairs 106 = .ok (.iload 4, 2) := by decide +kernel
theorem dX10_hasStairs_108 : decode cX10_hasStairs 108 = .ok (.iload 6, 2) := by decide +kernel
theorem dX10_hasStairs_110 : decode cX10_hasStairs 110 = .ok (.ifCond .eq 12, 3) := by decide +kernel
theorem dX10_hasStairs_113 : decode cX10_hasStairs 113 = .ok (.iload 7, 2) := by decide +kernel
theorem dX10_hasStairs_115 : decode cX10_hasStairs 115 = .ok (.ifCond .ne 7, 3) := by decide +kernel
theorem dX10_hasStairs_118 : decode cX10_hasStairs 118 = .ok (.iconst 1, 1) := by decide +kernel
theorem dX10_hasStairs_119 : decode cX10_hasStairs 119 = .ok (.goto 4, 3) := by decide +kernel
theorem dX10_hasStairs_122 : decode cX10_hasStairs 122 = .ok (.iconst 0, 1) := by decide +kernel
theorem dX10_hasStairs_123 : decode cX10_hasStairs 123 = .ok (.iadd, 1) := by decide +kernel
theorem dX10_hasStairs_124 : decode cX10_hasStairs 124 = .ok (.istore 4, 2) := by decide +kernel
theorem dX10_hasStairs_126 : decode cX10_hasStairs 126 = .ok (.iinc 5 1, 3) := by decide +kernel
theorem dX10_hasStairs_129 : decode cX10_hasStairs 129 = .ok (.goto (-93), 3) := by decide +kernel
theorem dX10_hasStairs_132 : decode cX10_hasStairs 132 = .ok (.iload_n 1, 1) := by decide +kernel
theorem dX10_hasStairs_133 : decode cX10_hasStairs 133 = .ok (.ifCond .eq 13, 3) := by decide +kernel
theorem dX10_hasStairs_136 : decode cX10_hasStairs 136 = .ok (.iload 4, 2) := by decide +kernel
theorem dX10_hasStairs_138 : decode cX10_hasStairs 138 = .ok (.iconst 2, 1) := by decide +kernel
theorem dX10_hasStairs_139 : decode cX10_hasStairs 139 = .ok (.if_icmp .ge 7, 3) := by decide +kernel
theorem dX10_hasStairs_142 : decode cX10_hasStairs 142 = .ok (.iconst 1, 1) := by decide +kernel
theorem dX10_hasStairs_143 : decode cX10_hasStairs 143 = .ok (.goto 4, 3) := by decide +kernel
theorem dX10_hasStairs_146 : decode cX10_hasStairs 146 = .ok (.iconst 0, 1) := by decide +kernel
theorem dX10_hasStairs_147 : decode cX10_hasStairs 147 = .ok (.istore_n 1, 1) := by decide +kernel
theorem dX10_hasStairs_148 : decode cX10_hasStairs 148 = .ok (.iinc 3 1, 3) := by decide +kernel
theorem dX10_hasStairs_151 : decode cX10_hasStairs 151 = .ok (.goto (-140), 3) := by decide +kernel
theorem dX10_hasStairs_154 : decode cX10_hasStairs 154 = .ok (.iinc 2 1, 3) := by decide +kernel
theorem dX10_hasStairs_157 : decode cX10_hasStairs 157 = .ok (.goto (-153), 3) := by decide +kernel
theorem dX10_hasStairs_160 : decode cX10_hasStairs 160 = .ok (.iload_n 1, 1) := by decide +kernel
theorem dX10_hasStairs_161 : decode cX10_hasStairs 161 = .ok (.ireturn, 1) := by decide +kernel
set_option maxRecDepth 20000 in
theorem ggX10_isDisc_X10_many : GoodIn wsX10_isDisc wsX10_many := goodIn_r _ [12, 4, 13, 14, 15, 11, 16, 2, 1, 17, 18, 19, 20, 21, 22, 23, 24, 25, 26, 27, 28, 29, 30, 31, 32, 33, 34] rfl (by decide +kernel)
set_option maxRecDepth 20000 in
theorem gX10_isDisc_X10_many : GoodIn wsX10_isDisc (wsV RX10 145 RX10 yX10_many wsX10_many) := goodIn_app (goodIn_of _ (by decide +kernel)) ggX10_isDisc_X10_many
set_option maxRecDepth 20000 in
theorem ggX10_isDisc_X10_fields : GoodIn wsX10_isDisc wsX10_fields := goodIn_r _ [16, 2, 1, 17, 18, 19, 20, 21, 22, 23, 24, 25, 26, 27, 28, 29, 30, 31, 32, 33, 34] rfl (by decide +kernel)
set_option maxRecDepth 20000 in
theorem gX10_isDisc_X10_fields : GoodIn wsX10_isDisc (wsV RX10 117 RX10 yX10_fields wsX10_fields) := goodIn_app (goodIn_of _ (by decide +kernel)) ggX10_isDisc_X10_fields
theorem dX10_isDisc_0 : decode cX10_isDisc 0 = .ok (.aload_n 0, 1) := by decide +kernel
theorem dX10_isDisc_1 : decode cX10_isDisc 1 = .ok (.invokevirtual 145, 3) := by decide +kernel
theorem dX10_isDisc_4 : decode cX10_isDisc 4 = .ok (.istore_n 1, 1) := by decide +kernel
theorem dX10_isDisc_5 : decode cX10_isDisc 5 = .ok (.iconst 0, 1) := by decide +kernel
theorem dX10_isDisc_6 : decode cX10_isDisc 6 = .ok (.istore_n 2, 1) := by decide +kernel
theorem dX10_isDisc_7 : decode cX10_isDisc 7 = .ok (.iload_n 2, 1) := by decide +kernel
theorem dX10_isDisc_8 : decode cX10_isDisc 8 = .ok (.iconst 2, 1) := by decide +kernel
theorem dX10_isDisc_9 : decode cX10_isDisc 9 = .ok (.aload_n 0, 1) := by decide +kernel
theorem dX10_isDisc_10 : decode cX10_isDisc 10 = .ok (.getfield 24, 3) := by decide +kernel
theorem dX10_isDisc_13 : decode cX10_isDisc 13 = .ok (.imul, 1) := by decide +kernel
theorem dX10_isDisc_14 : decode cX10_isDisc 14 = .ok (.iconst 2, 1) := by decide +kernel
theorem dX10_isDisc_15 : decode cX10_isDisc 15 = .ok (.isub, 1) := by decide +kernel
theorem dX10_isDisc_16 : decode cX10_isDisc 16 = .ok (.if_icmp .gt 174, 3) := by decide +kernel
theorem dX10_isDisc_19 : decode cX10_isDisc 19 = .ok (.iload_n 1, 1) := by decide +kernel
theorem dX10_isDisc_20 : decode cX10_isDisc 20 = .ok (.ifCond .le 170, 3) := by decide +kernel
theorem dX10_isDisc_23 : decode cX10_isDisc 23 = .ok (.iconst 0, 1) := by decide +kernel
theorem dX10_isDisc_24 : decode cX10_isDisc 24 = .ok (.istore_n 3, 1) := by decide +kernel
theorem dX10_isDisc_25 : decode cX10_isDisc 25 = .ok (.iload_n 3, 1) := by decide +kernel
theorem dX10_isDisc_26 : decode cX10_isDisc 26 = .ok (.iconst 2, 1) := by decide +kernel
theorem dX10_isDisc_27 : decode cX10_isDisc 27 = .ok (.aload_n 0, 1) := by decide +kernel
theorem dX10_isDisc_28 : decode cX10_isDisc 28 = .ok (.getfield 20, 3) := by decide +kernel
theorem dX10_isDisc_31 : decode cX10_isDisc 31 = .ok (.imul, 1) := by decide +kernel
theorem dX10_isDisc_32 : decode cX10_isDisc 32 = .ok (.iconst 2, 1) := by decide +kernel
theorem dX10_isDisc_33 : decode cX10_isDisc 33 = .ok (.isub, 1) := by decide +kernel
theorem dX10_isDisc_34 : decode cX10_isDisc 34 = .ok (.if_icmp .gt 150, 3) := by decide +kernel
theorem dX10_isDisc_37 : decode cX10_isDisc 37 = .ok (.iconst 0, 1) := by decide +kernel
theorem dX10_isDisc_38 : decode cX10_isDisc 38 = .ok (.istore 4, 2) := by decide +kernel
theorem dX10_isDisc_40 : decode cX10_isDisc 40 = .ok (.ldc 176, 2) := by decide +kernel
theorem dX10_isDisc_42 : decode cX10_isDisc 42 = .ok (.istore 5, 2) := by decide +kernel
theorem dX10_isDisc_44 : decode cX10_isDisc 44 = .ok (.iconst 0, 1) := by decide +kernel
theorem dX10_isDisc_45 : decode cX10_isDisc 45 = .ok (.istore 6, 2) := by decide +kernel
theorem dX10_isDisc_47 : decode cX10_isDisc 47 = .ok (.iload 6, 2) := by decide +kernel
theorem dX10_isDisc_49 : decode cX10_isDisc 49 = .ok (.aload_n 0, 1) := by decide +kernel
theorem dX10_isDisc_50 : decode cX10_isDisc 50 = .ok (.invokevirtual 117, 3) := by decide +kernel
theorem dX10_isDisc_53 : decode cX10_isDisc 53 = .ok (.if_icmp .ge 100, 3) := by decide +kernel
theorem dX10_isDisc_56 : decode cX10_isDisc 56 = .ok (.iconst 2, 1) := by decide +kernel
theorem dX10_isDisc_57 : decode cX10_isDisc 57 = .ok (.iload 6, 2) := by decide +kernel
theorem dX10_isDisc_59 : decode cX10_isDisc 59 = .ok (.aload_n 0, 1) := by decide +kernel
theorem dX10_isDisc_60 : decode cX10_isDisc 60 = .ok (.getfield 20, 3) := by decide +kernel
theorem dX10_isDisc_63 : decode cX10_isDisc 63 = .ok (.irem, 1) := by decide +kernel
theorem dX10_isDisc_64 : decode cX10_isDisc 64 = .ok (.imul, 1) := by decide +kernel
theorem dX10_isDisc_65 : decode cX10_isDisc 65 = .ok (.iload_n 3, 1) := by decide +kernel
theorem dX10_isDisc_66 : decode cX10_isDisc 66 = .ok (.isub, 1) := by decide +kernel
theorem dX10_isDisc_67 : decode cX10_isDisc 67 = .ok (.istore 7, 2) := by decide +kernel
theorem dX10_isDisc_69 : decode cX10_isDisc 69 = .ok (.iconst 2, 1) := by decide +kernel
