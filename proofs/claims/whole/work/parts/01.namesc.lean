theorem dX6_append_82 : decode cX6_append 82 = .ok (.aload_n 0, 1) := by decide +kernel
theorem dX6_append_83 : decode cX6_append 83 = .ok (.dup, 1) := by decide +kernel
theorem dX6_append_84 : decode cX6_append 84 = .ok (.getfield 21, 3) := by decide +kernel
theorem dX6_append_87 : decode cX6_append 87 = .ok (.iconst 1, 1) := by decide +kernel
theorem dX6_append_88 : decode cX6_append 88 = .ok (.iadd, 1) := by decide +kernel
theorem dX6_append_89 : decode cX6_append 89 = .ok (.putfield 21, 3) := by decide +kernel
theorem dX6_append_92 : decode cX6_append 92 = .ok (.return_, 1) := by decide +kernel
theorem dX6_shorten_0 : decode cX6_shorten 0 = .ok (.iload_n 1, 1) := by decide +kernel
theorem dX6_shorten_1 : decode cX6_shorten 1 = .ok (.ifCond .lt 21, 3) := by decide +kernel
theorem dX6_shorten_4 : decode cX6_shorten 4 = .ok (.iload_n 1, 1) := by decide +kernel
theorem dX6_shorten_5 : decode cX6_shorten 5 = .ok (.aload_n 0, 1) := by decide +kernel
theorem dX6_shorten_6 : decode cX6_shorten 6 = .ok (.getfield 21, 3) := by decide +kernel
theorem dX6_shorten_9 : decode cX6_shorten 9 = .ok (.if_icmp .gt 13, 3) := by decide +kernel
theorem dX6_shorten_12 : decode cX6_shorten 12 = .ok (.aload_n 0, 1) := by decide +kernel
theorem dX6_shorten_13 : decode cX6_shorten 13 = .ok (.dup, 1) := by decide +kernel
theorem dX6_shorten_14 : decode cX6_shorten 14 = .ok (.getfield 21, 3) := by decide +kernel
theorem dX6_shorten_17 : decode cX6_shorten 17 = .ok (.iload_n 1, 1) := by decide +kernel
theorem dX6_shorten_18 : decode cX6_shorten 18 = .ok (.isub, 1) := by decide +kernel
theorem dX6_shorten_19 : decode cX6_shorten 19 = .ok (.putfield 21, 3) := by decide +kernel
theorem dX6_shorten_22 : decode cX6_shorten 22 = .ok (.return_, 1) := by decide +kernel
set_option maxRecDepth 20000 in
theorem ggX6_appendLine_X6_nearest : GoodIn wsX6_appendLine wsX6_nearest := goodIn_r _ [4, 5, 6, 7, 8] rfl (by decide +kernel)
set_option maxRecDepth 20000 in
theorem gX6_appendLine_X6_nearest : GoodIn wsX6_appendLine (va_wsS RX6 38 yX6_nearest wsX6_nearest) := goodIn_app (goodIn_of _ (by decide +kernel)) ggX6_appendLine_X6_nearest
set_option maxRecDepth 20000 in
theorem ggX6_appendLine_X6_wayBy : GoodIn wsX6_appendLine wsX6_wayBy := goodIn_r _ [11] rfl (by decide +kernel)
set_option maxRecDepth 20000 in
theorem gX6_appendLine_X6_wayBy : GoodIn wsX6_appendLine (va_wsS RX6 42 yX6_wayBy wsX6_wayBy) := goodIn_app (goodIn_of _ (by decide +kernel)) ggX6_appendLine_X6_wayBy
set_option maxRecDepth 20000 in
theorem ggX6_appendLine_X6_append : GoodIn wsX6_appendLine wsX6_append := goodIn_r _ [15, 16, 17, 18, 19, 20, 21, 22, 23] rfl (by decide +kernel)
set_option maxRecDepth 20000 in
theorem gX6_appendLine_X6_append : GoodIn wsX6_appendLine (wsV RX6 45 RX6 yX6_append wsX6_append) := goodIn_app (goodIn_of _ (by decide +kernel)) ggX6_appendLine_X6_append
theorem dX6_appendLine_0 : decode cX6_appendLine 0 = .ok (.iconst 0, 1) := by decide +kernel
theorem dX6_appendLine_1 : decode cX6_appendLine 1 = .ok (.istore 4, 2) := by decide +kernel
theorem dX6_appendLine_3 : decode cX6_appendLine 3 = .ok (.iconst 0, 1) := by decide +kernel
theorem dX6_appendLine_4 : decode cX6_appendLine 4 = .ok (.istore 5, 2) := by decide +kernel
theorem dX6_appendLine_6 : decode cX6_appendLine 6 = .ok (.iconst 1, 1) := by decide +kernel
theorem dX6_appendLine_7 : decode cX6_appendLine 7 = .ok (.istore 6, 2) := by decide +kernel
theorem dX6_appendLine_9 : decode cX6_appendLine 9 = .ok (.iload 6, 2) := by decide +kernel
theorem dX6_appendLine_11 : decode cX6_appendLine 11 = .ok (.iload_n 3, 1) := by decide +kernel
theorem dX6_appendLine_12 : decode cX6_appendLine 12 = .ok (.if_icmp .gt 54, 3) := by decide +kernel
theorem dX6_appendLine_15 : decode cX6_appendLine 15 = .ok (.iload_n 1, 1) := by decide +kernel
theorem dX6_appendLine_16 : decode cX6_appendLine 16 = .ok (.iload 6, 2) := by decide +kernel
theorem dX6_appendLine_18 : decode cX6_appendLine 18 = .ok (.imul, 1) := by decide +kernel
theorem dX6_appendLine_19 : decode cX6_appendLine 19 = .ok (.iload_n 3, 1) := by decide +kernel
theorem dX6_appendLine_20 : decode cX6_appendLine 20 = .ok (.invokestatic 38, 3) := by decide +kernel
theorem dX6_appendLine_23 : decode cX6_appendLine 23 = .ok (.istore 7, 2) := by decide +kernel
theorem dX6_appendLine_25 : decode cX6_appendLine 25 = .ok (.iload_n 2, 1) := by decide +kernel
theorem dX6_appendLine_26 : decode cX6_appendLine 26 = .ok (.iload 6, 2) := by decide +kernel
theorem dX6_appendLine_28 : decode cX6_appendLine 28 = .ok (.imul, 1) := by decide +kernel
theorem dX6_appendLine_29 : decode cX6_appendLine 29 = .ok (.iload_n 3, 1) := by decide +kernel
theorem dX6_appendLine_30 : decode cX6_appendLine 30 = .ok (.invokestatic 38, 3) := by decide +kernel
theorem dX6_appendLine_33 : decode cX6_appendLine 33 = .ok (.istore 8, 2) := by decide +kernel
theorem dX6_appendLine_35 : decode cX6_appendLine 35 = .ok (.aload_n 0, 1) := by decide +kernel
theorem dX6_appendLine_36 : decode cX6_appendLine 36 = .ok (.iload 7, 2) := by decide +kernel
theorem dX6_appendLine_38 : decode cX6_appendLine 38 = .ok (.iload 4, 2) := by decide +kernel
theorem dX6_appendLine_40 : decode cX6_appendLine 40 = .ok (.isub, 1) := by decide +kernel
theorem dX6_appendLine_41 : decode cX6_appendLine 41 = .ok (.iload 8, 2) := by decide +kernel
theorem dX6_appendLine_43 : decode cX6_appendLine 43 = .ok (.iload 5, 2) := by decide +kernel
theorem dX6_appendLine_45 : decode cX6_appendLine 45 = .ok (.isub, 1) := by decide +kernel
theorem dX6_appendLine_46 : decode cX6_appendLine 46 = .ok (.invokestatic 42, 3) := by decide +kernel
theorem dX6_appendLine_49 : decode cX6_appendLine 49 = .ok (.invokevirtual 45, 3) := by decide +kernel
theorem dX6_appendLine_52 : decode cX6_appendLine 52 = .ok (.iload 7, 2) := by decide +kernel
theorem dX6_appendLine_54 : decode cX6_appendLine 54 = .ok (.istore 4, 2) := by decide +kernel
theorem dX6_appendLine_56 : decode cX6_appendLine 56 = .ok (.iload 8, 2) := by decide +kernel
theorem dX6_appendLine_58 : decode cX6_appendLine 58 = .ok (.istore 5, 2) := by decide +kernel
theorem dX6_appendLine_60 : decode cX6_appendLine 60 = .ok (.iinc 6 1, 3) := by decide +kernel
theorem dX6_appendLine_63 : decode cX6_appendLine 63 = .ok (.goto (-54), 3) := by decide +kernel
theorem dX6_appendLine_66 : decode cX6_appendLine 66 = .ok (.return_, 1) := by decide +kernel
set_option maxRecDepth 20000 in
theorem ggX6_comesBack_X6_xOf : GoodIn wsX6_comesBack wsX6_xOf := goodIn_r _ [6, 7, 8, 9, 10, 5, 11, 1, 17, 18, 19, 20] rfl (by decide +kernel)
set_option maxRecDepth 20000 in
theorem gX6_comesBack_X6_xOf : GoodIn wsX6_comesBack (wsV RX6 49 RX6 yX6_xOf wsX6_xOf) := goodIn_app (goodIn_of _ (by decide +kernel)) ggX6_comesBack_X6_xOf
set_option maxRecDepth 20000 in
theorem ggX6_comesBack_X6_yOf : GoodIn wsX6_comesBack wsX6_yOf := goodIn_r _ [15, 16, 8, 9, 10, 5, 11, 1, 17, 18, 19, 20] rfl (by decide +kernel)
set_option maxRecDepth 20000 in
theorem gX6_comesBack_X6_yOf : GoodIn wsX6_comesBack (wsV RX6 53 RX6 yX6_yOf wsX6_yOf) := goodIn_app (goodIn_of _ (by decide +kernel)) ggX6_comesBack_X6_yOf
theorem dX6_comesBack_0 : decode cX6_comesBack 0 = .ok (.aload_n 0, 1) := by decide +kernel
theorem dX6_comesBack_1 : decode cX6_comesBack 1 = .ok (.aload_n 0, 1) := by decide +kernel
theorem dX6_comesBack_2 : decode cX6_comesBack 2 = .ok (.getfield 21, 3) := by decide +kernel
theorem dX6_comesBack_5 : decode cX6_comesBack 5 = .ok (.invokevirtual 49, 3) := by decide +kernel
theorem dX6_comesBack_8 : decode cX6_comesBack 8 = .ok (.ifCond .ne 18, 3) := by decide +kernel
theorem dX6_comesBack_11 : decode cX6_comesBack 11 = .ok (.aload_n 0, 1) := by decide +kernel
theorem dX6_comesBack_12 : decode cX6_comesBack 12 = .ok (.aload_n 0, 1) := by decide +kernel
theorem dX6_comesBack_13 : decode cX6_comesBack 13 = .ok (.getfield 21, 3) := by decide +kernel
theorem dX6_comesBack_16 : decode cX6_comesBack 16 = .ok (.invokevirtual 53, 3) := by decide +kernel
theorem dX6_comesBack_19 : decode cX6_comesBack 19 = .ok (.ifCond .ne 7, 3) := by decide +kernel
theorem dX6_comesBack_22 : decode cX6_comesBack 22 = .ok (.iconst 1, 1) := by decide +kernel
theorem dX6_comesBack_23 : decode cX6_comesBack 23 = .ok (.goto 4, 3) := by decide +kernel
theorem dX6_comesBack_26 : decode cX6_comesBack 26 = .ok (.iconst 0, 1) := by decide +kernel
theorem dX6_comesBack_27 : decode cX6_comesBack 27 = .ok (.ireturn, 1) := by decide +kernel
theorem dX6_evenSteps_0 : decode cX6_evenSteps 0 = .ok (.iconst 0, 1) := by decide +kernel
theorem dX6_evenSteps_1 : decode cX6_evenSteps 1 = .ok (.istore_n 1, 1) := by decide +kernel
theorem dX6_evenSteps_2 : decode cX6_evenSteps 2 = .ok (.iconst 0, 1) := by decide +kernel
theorem dX6_evenSteps_3 : decode cX6_evenSteps 3 = .ok (.istore_n 2, 1) := by decide +kernel
theorem dX6_evenSteps_4 : decode cX6_evenSteps 4 = .ok (.iload_n 2, 1) := by decide +kernel
theorem dX6_evenSteps_5 : decode cX6_evenSteps 5 = .ok (.aload_n 0, 1) := by decide +kernel
theorem dX6_evenSteps_6 : decode cX6_evenSteps 6 = .ok (.getfield 21, 3) := by decide +kernel
theorem dX6_evenSteps_9 : decode cX6_evenSteps 9 = .ok (.if_icmp .ge 23, 3) := by decide +kernel
theorem dX6_evenSteps_12 : decode cX6_evenSteps 12 = .ok (.aload_n 0, 1) := by decide +kernel
theorem dX6_evenSteps_13 : decode cX6_evenSteps 13 = .ok (.getfield 9, 3) := by decide +kernel
theorem dX6_evenSteps_16 : decode cX6_evenSteps 16 = .ok (.iload_n 2, 1) := by decide +kernel
theorem dX6_evenSteps_17 : decode cX6_evenSteps 17 = .ok (.iaload, 1) := by decide +kernel
theorem dX6_evenSteps_18 : decode cX6_evenSteps 18 = .ok (.iconst 2, 1) := by decide +kernel
theorem dX6_evenSteps_19 : decode cX6_evenSteps 19 = .ok (.irem, 1) := by decide +kernel
theorem dX6_evenSteps_20 : decode cX6_evenSteps 20 = .ok (.ifCond .ne 6, 3) := by decide +kernel
theorem dX6_evenSteps_23 : decode cX6_evenSteps 23 = .ok (.iinc 1 1, 3) := by decide +kernel
theorem dX6_evenSteps_26 : decode cX6_evenSteps 26 = .ok (.iinc 2 1, 3) := by decide +kernel
theorem dX6_evenSteps_29 : decode cX6_evenSteps 29 = .ok (.goto (-25), 3) := by decide +kernel
theorem dX6_evenSteps_32 : decode cX6_evenSteps 32 = .ok (.iload_n 1, 1) := by decide +kernel
theorem dX6_evenSteps_33 : decode cX6_evenSteps 33 = .ok (.ireturn, 1) := by decide +kernel
set_option maxRecDepth 20000 in
theorem ggX6_nearest_J9_floorDiv_7cf53 : GoodIn wsX6_nearest wsJ9_floorDiv_7cf53 := goodIn_r _ [4] rfl (by decide +kernel)
set_option maxRecDepth 20000 in
theorem gX6_nearest_J9_floorDiv_7cf53 : GoodIn wsX6_nearest (va_wsS RX6 56 yJ9_floorDiv_7cf53 wsJ9_floorDiv_7cf53) := goodIn_app (goodIn_of _ (by decide +kernel)) ggX6_nearest_J9_floorDiv_7cf53
theorem dX6_nearest_0 : decode cX6_nearest 0 = .ok (.iload_n 1, 1) := by decide +kernel
theorem dX6_nearest_1 : decode cX6_nearest 1 = .ok (.ifCond .le 17, 3) := by decide +kernel
theorem dX6_nearest_4 : decode cX6_nearest 4 = .ok (.iconst 2, 1) := by decide +kernel
theorem dX6_nearest_5 : decode cX6_nearest 5 = .ok (.iload_n 0, 1) := by decide +kernel
theorem dX6_nearest_6 : decode cX6_nearest 6 = .ok (.imul, 1) := by decide +kernel
theorem dX6_nearest_7 : decode cX6_nearest 7 = .ok (.iload_n 1, 1) := by decide +kernel
theorem dX6_nearest_8 : decode cX6_nearest 8 = .ok (.iadd, 1) := by decide +kernel
theorem dX6_nearest_9 : decode cX6_nearest 9 = .ok (.iconst 2, 1) := by decide +kernel
theorem dX6_nearest_10 : decode cX6_nearest 10 = .ok (.iload_n 1, 1) := by decide +kernel
theorem dX6_nearest_11 : decode cX6_nearest 11 = .ok (.imul, 1) := by decide +kernel
theorem dX6_nearest_12 : decode cX6_nearest 12 = .ok (.invokestatic 56, 3) := by decide +kernel
theorem dX6_nearest_15 : decode cX6_nearest 15 = .ok (.goto 4, 3) := by decide +kernel
theorem dX6_nearest_18 : decode cX6_nearest 18 = .ok (.iconst 0, 1) := by decide +kernel
theorem dX6_nearest_19 : decode cX6_nearest 19 = .ok (.ireturn, 1) := by decide +kernel
theorem dX6_wayBy_0 : decode cX6_wayBy 0 = .ok (.iconst 0, 1) := by decide +kernel
theorem dX6_wayBy_1 : decode cX6_wayBy 1 = .ok (.istore_n 2, 1) := by decide +kernel
theorem dX6_wayBy_2 : decode cX6_wayBy 2 = .ok (.iload_n 2, 1) := by decide +kernel
theorem dX6_wayBy_3 : decode cX6_wayBy 3 = .ok (.bipush 8, 2) := by decide +kernel
theorem dX6_wayBy_5 : decode cX6_wayBy 5 = .ok (.if_icmp .ge 29, 3) := by decide +kernel
theorem dX6_wayBy_8 : decode cX6_wayBy 8 = .ok (.getstatic 32, 3) := by decide +kernel
theorem dX6_wayBy_11 : decode cX6_wayBy 11 = .ok (.iload_n 2, 1) := by decide +kernel
theorem dX6_wayBy_12 : decode cX6_wayBy 12 = .ok (.iaload, 1) := by decide +kernel
theorem dX6_wayBy_13 : decode cX6_wayBy 13 = .ok (.iload_n 0, 1) := by decide +kernel
theorem dX6_wayBy_14 : decode cX6_wayBy 14 = .ok (.if_icmp .ne 14, 3) := by decide +kernel
theorem dX6_wayBy_17 : decode cX6_wayBy 17 = .ok (.getstatic 35, 3) := by decide +kernel
theorem dX6_wayBy_20 : decode cX6_wayBy 20 = .ok (.iload_n 2, 1) := by decide +kernel
theorem dX6_wayBy_21 : decode cX6_wayBy 21 = .ok (.iaload, 1) := by decide +kernel
theorem dX6_wayBy_22 : decode cX6_wayBy 22 = .ok (.iload_n 1, 1) := by decide +kernel
theorem dX6_wayBy_23 : decode cX6_wayBy 23 = .ok (.if_icmp .ne 5, 3) := by decide +kernel
theorem dX6_wayBy_26 : decode cX6_wayBy 26 = .ok (.iload_n 2, 1) := by decide +kernel
theorem dX6_wayBy_27 : decode cX6_wayBy 27 = .ok (.ireturn, 1) := by decide +kernel
theorem dX6_wayBy_28 : decode cX6_wayBy 28 = .ok (.iinc 2 1, 3) := by decide +kernel
theorem dX6_wayBy_31 : decode cX6_wayBy 31 = .ok (.goto (-29), 3) := by decide +kernel
theorem dX6_wayBy_34 : decode cX6_wayBy 34 = .ok (.sipush (-999), 3) := by decide +kernel
theorem dX6_wayBy_37 : decode cX6_wayBy 37 = .ok (.ireturn, 1) := by decide +kernel
theorem dX7_init_0 : decode cX7_init 0 = .ok (.aload_n 0, 1) := by decide +kernel
theorem dX7_init_1 : decode cX7_init 1 = .ok (.invokespecial 3, 3) := by decide +kernel
theorem dX7_init_4 : decode cX7_init 4 = .ok (.aload_n 0, 1) := by decide +kernel
theorem dX7_init_5 : decode cX7_init 5 = .ok (.sipush 144, 3) := by decide +kernel
theorem dX7_init_8 : decode cX7_init 8 = .ok (.newarray .boolean, 2) := by decide +kernel
theorem dX7_init_10 : decode cX7_init 10 = .ok (.putfield 9, 3) := by decide +kernel
theorem dX7_init_13 : decode cX7_init 13 = .ok (.return_, 1) := by decide +kernel
set_option maxRecDepth 20000 in
theorem ggX7_isLoose_X2_holds : GoodIn wsX7_isLoose wsX2_holds := goodIn_r _ [5, 6, 7, 8, 9, 4, 10, 11, 12, 13, 14, 15, 16, 48, 49, 50] rfl (by decide +kernel)
set_option maxRecDepth 20000 in
theorem gX7_isLoose_X2_holds : GoodIn wsX7_isLoose (wsV RX7 15 RX2 yX2_holds wsX2_holds) := goodIn_app (goodIn_of _ (by decide +kernel)) ggX7_isLoose_X2_holds
set_option maxRecDepth 20000 in
theorem ggX7_isLoose_X2_eightAbout : GoodIn wsX7_isLoose wsX2_eightAbout := goodIn_r _ [20, 21, 22, 23, 4, 24, 15, 25, 26, 27, 28, 29, 30, 31, 32, 33, 34, 35, 36, 16, 37, 2, 3, 5, 6, 7, 8, 9, 10, 11, 12, 13, 14, 48, 49, 50] rfl (by decide +kernel)
set_option maxRecDepth 20000 in
theorem gX7_isLoose_X2_eightAbout : GoodIn wsX7_isLoose (wsV RX7 21 RX2 yX2_eightAbout wsX2_eightAbout) := goodIn_app (goodIn_of _ (by decide +kernel)) ggX7_isLoose_X2_eightAbout
set_option maxRecDepth 20000 in
theorem ggX7_isLoose_X7_eightLetGo : GoodIn wsX7_isLoose wsX7_eightLetGo := goodIn_r _ [41, 42, 43, 40, 44, 45, 46, 47] rfl (by decide +kernel)
set_option maxRecDepth 20000 in
theorem gX7_isLoose_X7_eightLetGo : GoodIn wsX7_isLoose (va_wsS RX7 25 yX7_eightLetGo wsX7_eightLetGo) := goodIn_app (goodIn_of _ (by decide +kernel)) ggX7_isLoose_X7_eightLetGo
theorem dX7_isLoose_0 : decode cX7_isLoose 0 = .ok (.aload_n 1, 1) := by decide +kernel
theorem dX7_isLoose_1 : decode cX7_isLoose 1 = .ok (.iload_n 2, 1) := by decide +kernel
theorem dX7_isLoose_2 : decode cX7_isLoose 2 = .ok (.invokevirtual 15, 3) := by decide +kernel
theorem dX7_isLoose_5 : decode cX7_isLoose 5 = .ok (.ifCond .eq 18, 3) := by decide +kernel
theorem dX7_isLoose_8 : decode cX7_isLoose 8 = .ok (.aload_n 1, 1) := by decide +kernel
theorem dX7_isLoose_9 : decode cX7_isLoose 9 = .ok (.iload_n 2, 1) := by decide +kernel
theorem dX7_isLoose_10 : decode cX7_isLoose 10 = .ok (.invokevirtual 21, 3) := by decide +kernel
theorem dX7_isLoose_13 : decode cX7_isLoose 13 = .ok (.invokestatic 25, 3) := by decide +kernel
theorem dX7_isLoose_16 : decode cX7_isLoose 16 = .ok (.ifCond .eq 7, 3) := by decide +kernel
theorem dX7_isLoose_19 : decode cX7_isLoose 19 = .ok (.iconst 1, 1) := by decide +kernel
theorem dX7_isLoose_20 : decode cX7_isLoose 20 = .ok (.goto 4, 3) := by decide +kernel
theorem dX7_isLoose_23 : decode cX7_isLoose 23 = .ok (.iconst 0, 1) := by decide +kernel
theorem dX7_isLoose_24 : decode cX7_isLoose 24 = .ok (.ireturn, 1) := by decide +kernel
set_option maxRecDepth 20000 in
theorem ggX7_takeOnce_X2_fields : GoodIn wsX7_takeOnce wsX2_fields := goodIn_r _ [6, 7, 8, 65, 66, 67] rfl (by decide +kernel)
set_option maxRecDepth 20000 in
theorem gX7_takeOnce_X2_fields : GoodIn wsX7_takeOnce (wsV RX7 28 RX2 yX2_fields wsX2_fields) := goodIn_app (goodIn_of _ (by decide +kernel)) ggX7_takeOnce_X2_fields
set_option maxRecDepth 20000 in
theorem ggX7_takeOnce_X2_holds : GoodIn wsX7_takeOnce wsX2_holds := goodIn_r _ [12, 13, 14, 15, 16, 5, 17, 18, 3, 4, 6, 7, 8, 65, 66, 67] rfl (by decide +kernel)
set_option maxRecDepth 20000 in
theorem gX7_takeOnce_X2_holds : GoodIn wsX7_takeOnce (wsV RX7 15 RX2 yX2_holds wsX2_holds) := goodIn_app (goodIn_of _ (by decide +kernel)) ggX7_takeOnce_X2_holds
set_option maxRecDepth 20000 in
theorem ggX7_takeOnce_X2_eightAbout : GoodIn wsX7_takeOnce wsX2_eightAbout := goodIn_r _ [22, 23, 24, 25, 5, 26, 7, 27, 28, 29, 30, 31, 32, 33, 34, 35, 36, 37, 38, 8, 39, 10, 11, 12, 13, 14, 15, 16, 17, 18, 3, 4, 6, 65, 66, 67] rfl (by decide +kernel)
set_option maxRecDepth 20000 in
theorem gX7_takeOnce_X2_eightAbout : GoodIn wsX7_takeOnce (wsV RX7 21 RX2 yX2_eightAbout wsX2_eightAbout) := goodIn_app (goodIn_of _ (by decide +kernel)) ggX7_takeOnce_X2_eightAbout
set_option maxRecDepth 20000 in
theorem ggX7_takeOnce_X7_mayGo : GoodIn wsX7_takeOnce wsX7_mayGo := goodIn_r _ [43, 44, 45, 46, 47, 48, 49, 50, 51, 52, 42, 53, 54, 55, 56, 57, 58, 59] rfl (by decide +kernel)
set_option maxRecDepth 20000 in
theorem gX7_takeOnce_X7_mayGo : GoodIn wsX7_takeOnce (va_wsS RX7 32 yX7_mayGo wsX7_mayGo) := goodIn_app (goodIn_of _ (by decide +kernel)) ggX7_takeOnce_X7_mayGo
set_option maxRecDepth 20000 in
theorem ggX7_takeOnce_X2_put : GoodIn wsX7_takeOnce wsX2_put := goodIn_r _ [63, 13, 14, 15, 16, 5, 17, 18, 3, 4, 6, 7, 8, 65, 66, 67] rfl (by decide +kernel)
set_option maxRecDepth 20000 in
theorem gX7_takeOnce_X2_put : GoodIn wsX7_takeOnce (wsV RX7 35 RX2 yX2_put wsX2_put) := goodIn_app (goodIn_of _ (by decide +kernel)) ggX7_takeOnce_X2_put
theorem dX7_takeOnce_0 : decode cX7_takeOnce 0 = .ok (.iconst 0, 1) := by decide +kernel
theorem dX7_takeOnce_1 : decode cX7_takeOnce 1 = .ok (.istore_n 2, 1) := by decide +kernel
theorem dX7_takeOnce_2 : decode cX7_takeOnce 2 = .ok (.iload_n 2, 1) := by decide +kernel
theorem dX7_takeOnce_3 : decode cX7_takeOnce 3 = .ok (.aload_n 1, 1) := by decide +kernel
theorem dX7_takeOnce_4 : decode cX7_takeOnce 4 = .ok (.invokevirtual 28, 3) := by decide +kernel
theorem dX7_takeOnce_7 : decode cX7_takeOnce 7 = .ok (.if_icmp .ge 41, 3) := by decide +kernel
theorem dX7_takeOnce_10 : decode cX7_takeOnce 10 = .ok (.aload_n 0, 1) := by decide +kernel
theorem dX7_takeOnce_11 : decode cX7_takeOnce 11 = .ok (.getfield 9, 3) := by decide +kernel
theorem dX7_takeOnce_14 : decode cX7_takeOnce 14 = .ok (.iload_n 2, 1) := by decide +kernel
theorem dX7_takeOnce_15 : decode cX7_takeOnce 15 = .ok (.aload_n 1, 1) := by decide +kernel
theorem dX7_takeOnce_16 : decode cX7_takeOnce 16 = .ok (.iload_n 2, 1) := by decide +kernel
theorem dX7_takeOnce_17 : decode cX7_takeOnce 17 = .ok (.invokevirtual 15, 3) := by decide +kernel
theorem dX7_takeOnce_20 : decode cX7_takeOnce 20 = .ok (.ifCond .eq 20, 3) := by decide +kernel
theorem dX7_takeOnce_23 : decode cX7_takeOnce 23 = .ok (.aload_n 1, 1) := by decide +kernel
theorem dX7_takeOnce_24 : decode cX7_takeOnce 24 = .ok (.iload_n 2, 1) := by decide +kernel
theorem dX7_takeOnce_25 : decode cX7_takeOnce 25 = .ok (.invokevirtual 21, 3) := by decide +kernel
theorem dX7_takeOnce_28 : decode cX7_takeOnce 28 = .ok (.bipush 85, 2) := by decide +kernel
theorem dX7_takeOnce_30 : decode cX7_takeOnce 30 = .ok (.iand, 1) := by decide +kernel
theorem dX7_takeOnce_31 : decode cX7_takeOnce 31 = .ok (.bipush 85, 2) := by decide +kernel
theorem dX7_takeOnce_33 : decode cX7_takeOnce 33 = .ok (.if_icmp .eq 7, 3) := by decide +kernel
theorem dX7_takeOnce_36 : decode cX7_takeOnce 36 = .ok (.iconst 1, 1) := by decide +kernel
theorem dX7_takeOnce_37 : decode cX7_takeOnce 37 = .ok (.goto 4, 3) := by decide +kernel
theorem dX7_takeOnce_40 : decode cX7_takeOnce 40 = .ok (.iconst 0, 1) := by decide +kernel
theorem dX7_takeOnce_41 : decode cX7_takeOnce 41 = .ok (.bastore, 1) := by decide +kernel
theorem dX7_takeOnce_42 : decode cX7_takeOnce 42 = .ok (.iinc 2 1, 3) := by decide +kernel
theorem dX7_takeOnce_45 : decode cX7_takeOnce 45 = .ok (.goto (-43), 3) := by decide +kernel
theorem dX7_takeOnce_48 : decode cX7_takeOnce 48 = .ok (.iconst 0, 1) := by decide +kernel
theorem dX7_takeOnce_49 : decode cX7_takeOnce 49 = .ok (.istore_n 2, 1) := by decide +kernel
theorem dX7_takeOnce_50 : decode cX7_takeOnce 50 = .ok (.iconst 0, 1) := by decide +kernel
theorem dX7_takeOnce_51 : decode cX7_takeOnce 51 = .ok (.istore_n 3, 1) := by decide +kernel
theorem dX7_takeOnce_52 : decode cX7_takeOnce 52 = .ok (.iload_n 3, 1) := by decide +kernel
theorem dX7_takeOnce_53 : decode cX7_takeOnce 53 = .ok (.aload_n 1, 1) := by decide +kernel
theorem dX7_takeOnce_54 : decode cX7_takeOnce 54 = .ok (.invokevirtual 28, 3) := by decide +kernel
theorem dX7_takeOnce_57 : decode cX7_takeOnce 57 = .ok (.if_icmp .ge 38, 3) := by decide +kernel
theorem dX7_takeOnce_60 : decode cX7_takeOnce 60 = .ok (.aload_n 0, 1) := by decide +kernel
theorem dX7_takeOnce_61 : decode cX7_takeOnce 61 = .ok (.getfield 9, 3) := by decide +kernel
theorem dX7_takeOnce_64 : decode cX7_takeOnce 64 = .ok (.iload_n 3, 1) := by decide +kernel
theorem dX7_takeOnce_65 : decode cX7_takeOnce 65 = .ok (.baload, 1) := by decide +kernel
theorem dX7_takeOnce_66 : decode cX7_takeOnce 66 = .ok (.ifCond .eq 23, 3) := by decide +kernel
theorem dX7_takeOnce_69 : decode cX7_takeOnce 69 = .ok (.aload_n 1, 1) := by decide +kernel
theorem dX7_takeOnce_70 : decode cX7_takeOnce 70 = .ok (.iload_n 3, 1) := by decide +kernel
theorem dX7_takeOnce_71 : decode cX7_takeOnce 71 = .ok (.invokevirtual 21, 3) := by decide +kernel
theorem dX7_takeOnce_74 : decode cX7_takeOnce 74 = .ok (.invokestatic 32, 3) := by decide +kernel
theorem dX7_takeOnce_77 : decode cX7_takeOnce 77 = .ok (.ifCond .eq 12, 3) := by decide +kernel
theorem dX7_takeOnce_80 : decode cX7_takeOnce 80 = .ok (.aload_n 1, 1) := by decide +kernel
theorem dX7_takeOnce_81 : decode cX7_takeOnce 81 = .ok (.iload_n 3, 1) := by decide +kernel
theorem dX7_takeOnce_82 : decode cX7_takeOnce 82 = .ok (.iconst 0, 1) := by decide +kernel
theorem dX7_takeOnce_83 : decode cX7_takeOnce 83 = .ok (.invokevirtual 35, 3) := by decide +kernel
theorem dX7_takeOnce_86 : decode cX7_takeOnce 86 = .ok (.iinc 2 1, 3) := by decide +kernel
theorem dX7_takeOnce_89 : decode cX7_takeOnce 89 = .ok (.iinc 3 1, 3) := by decide +kernel
theorem dX7_takeOnce_92 : decode cX7_takeOnce 92 = .ok (.goto (-40), 3) := by decide +kernel
theorem dX7_takeOnce_95 : decode cX7_takeOnce 95 = .ok (.iload_n 2, 1) := by decide +kernel
theorem dX7_takeOnce_96 : decode cX7_takeOnce 96 = .ok (.ireturn, 1) := by decide +kernel
set_option maxRecDepth 20000 in
theorem ggX7_mayGo_J6_bitCount_0f7a4 : GoodIn wsX7_mayGo wsJ6_bitCount_0f7a4 := goodIn_r _ [4, 5, 6, 7] rfl (by decide +kernel)
set_option maxRecDepth 20000 in
theorem gX7_mayGo_J6_bitCount_0f7a4 : GoodIn wsX7_mayGo (va_wsS RX7 39 yJ6_bitCount_0f7a4 wsJ6_bitCount_0f7a4) := goodIn_app (goodIn_of _ (by decide +kernel)) ggX7_mayGo_J6_bitCount_0f7a4
set_option maxRecDepth 20000 in
theorem ggX7_mayGo_X7_eightLetGo : GoodIn wsX7_mayGo wsX7_eightLetGo := goodIn_r _ [11, 12, 13, 10, 14, 15, 16, 17] rfl (by decide +kernel)
set_option maxRecDepth 20000 in
theorem gX7_mayGo_X7_eightLetGo : GoodIn wsX7_mayGo (va_wsS RX7 25 yX7_eightLetGo wsX7_eightLetGo) := goodIn_app (goodIn_of _ (by decide +kernel)) ggX7_mayGo_X7_eightLetGo
theorem dX7_mayGo_0 : decode cX7_mayGo 0 = .ok (.iload_n 0, 1) := by decide +kernel
theorem dX7_mayGo_1 : decode cX7_mayGo 1 = .ok (.invokestatic 39, 3) := by decide +kernel
theorem dX7_mayGo_4 : decode cX7_mayGo 4 = .ok (.iconst 1, 1) := by decide +kernel
theorem dX7_mayGo_5 : decode cX7_mayGo 5 = .ok (.if_icmp .eq 14, 3) := by decide +kernel
theorem dX7_mayGo_8 : decode cX7_mayGo 8 = .ok (.iload_n 0, 1) := by decide +kernel
theorem dX7_mayGo_9 : decode cX7_mayGo 9 = .ok (.invokestatic 25, 3) := by decide +kernel
theorem dX7_mayGo_12 : decode cX7_mayGo 12 = .ok (.ifCond .eq 7, 3) := by decide +kernel
theorem dX7_mayGo_15 : decode cX7_mayGo 15 = .ok (.iconst 1, 1) := by decide +kernel
theorem dX7_mayGo_16 : decode cX7_mayGo 16 = .ok (.goto 4, 3) := by decide +kernel
theorem dX7_mayGo_19 : decode cX7_mayGo 19 = .ok (.iconst 0, 1) := by decide +kernel
theorem dX7_mayGo_20 : decode cX7_mayGo 20 = .ok (.ireturn, 1) := by decide +kernel
set_option maxRecDepth 20000 in
theorem ggX7_eightLetGo_X7_partWith : GoodIn wsX7_eightLetGo wsX7_partWith := goodIn_r _ [4, 5, 6, 3, 7] rfl (by decide +kernel)
set_option maxRecDepth 20000 in
theorem gX7_eightLetGo_X7_partWith : GoodIn wsX7_eightLetGo (va_wsS RX7 44 yX7_partWith wsX7_partWith) := goodIn_app (goodIn_of _ (by decide +kernel)) ggX7_eightLetGo_X7_partWith
theorem dX7_eightLetGo_0 : decode cX7_eightLetGo 0 = .ok (.sipush 255, 3) := by decide +kernel
theorem dX7_eightLetGo_3 : decode cX7_eightLetGo 3 = .ok (.iload_n 0, 1) := by decide +kernel
theorem dX7_eightLetGo_4 : decode cX7_eightLetGo 4 = .ok (.iconst (-1), 1) := by decide +kernel
theorem dX7_eightLetGo_5 : decode cX7_eightLetGo 5 = .ok (.ixor, 1) := by decide +kernel
theorem dX7_eightLetGo_6 : decode cX7_eightLetGo 6 = .ok (.iand, 1) := by decide +kernel
theorem dX7_eightLetGo_7 : decode cX7_eightLetGo 7 = .ok (.istore_n 1, 1) := by decide +kernel
theorem dX7_eightLetGo_8 : decode cX7_eightLetGo 8 = .ok (.iload_n 1, 1) := by decide +kernel
theorem dX7_eightLetGo_9 : decode cX7_eightLetGo 9 = .ok (.bipush 85, 2) := by decide +kernel
theorem dX7_eightLetGo_11 : decode cX7_eightLetGo 11 = .ok (.iand, 1) := by decide +kernel
theorem dX7_eightLetGo_12 : decode cX7_eightLetGo 12 = .ok (.istore_n 2, 1) := by decide +kernel
theorem dX7_eightLetGo_13 : decode cX7_eightLetGo 13 = .ok (.iload_n 0, 1) := by decide +kernel
theorem dX7_eightLetGo_14 : decode cX7_eightLetGo 14 = .ok (.ifCond .eq 7, 3) := by decide +kernel
theorem dX7_eightLetGo_17 : decode cX7_eightLetGo 17 = .ok (.iload_n 2, 1) := by decide +kernel
theorem dX7_eightLetGo_18 : decode cX7_eightLetGo 18 = .ok (.ifCond .ne 5, 3) := by decide +kernel
theorem dX7_eightLetGo_21 : decode cX7_eightLetGo 21 = .ok (.iconst 0, 1) := by decide +kernel
theorem dX7_eightLetGo_22 : decode cX7_eightLetGo 22 = .ok (.ireturn, 1) := by decide +kernel
theorem dX7_eightLetGo_23 : decode cX7_eightLetGo 23 = .ok (.iload_n 0, 1) := by decide +kernel
theorem dX7_eightLetGo_24 : decode cX7_eightLetGo 24 = .ok (.iload_n 0, 1) := by decide +kernel
theorem dX7_eightLetGo_25 : decode cX7_eightLetGo 25 = .ok (.ineg, 1) := by decide +kernel
theorem dX7_eightLetGo_26 : decode cX7_eightLetGo 26 = .ok (.iand, 1) := by decide +kernel
theorem dX7_eightLetGo_27 : decode cX7_eightLetGo 27 = .ok (.iload_n 0, 1) := by decide +kernel
theorem dX7_eightLetGo_28 : decode cX7_eightLetGo 28 = .ok (.iconst 1, 1) := by decide +kernel
theorem dX7_eightLetGo_29 : decode cX7_eightLetGo 29 = .ok (.invokestatic 44, 3) := by decide +kernel
theorem dX7_eightLetGo_32 : decode cX7_eightLetGo 32 = .ok (.iload_n 0, 1) := by decide +kernel
theorem dX7_eightLetGo_33 : decode cX7_eightLetGo 33 = .ok (.if_icmp .ne 7, 3) := by decide +kernel
theorem dX7_eightLetGo_36 : decode cX7_eightLetGo 36 = .ok (.iconst 1, 1) := by decide +kernel
theorem dX7_eightLetGo_37 : decode cX7_eightLetGo 37 = .ok (.goto 4, 3) := by decide +kernel
theorem dX7_eightLetGo_40 : decode cX7_eightLetGo 40 = .ok (.iconst 0, 1) := by decide +kernel
theorem dX7_eightLetGo_41 : decode cX7_eightLetGo 41 = .ok (.istore_n 3, 1) := by decide +kernel
theorem dX7_eightLetGo_42 : decode cX7_eightLetGo 42 = .ok (.iload_n 2, 1) := by decide +kernel
theorem dX7_eightLetGo_43 : decode cX7_eightLetGo 43 = .ok (.iload_n 2, 1) := by decide +kernel
theorem dX7_eightLetGo_44 : decode cX7_eightLetGo 44 = .ok (.ineg, 1) := by decide +kernel
theorem dX7_eightLetGo_45 : decode cX7_eightLetGo 45 = .ok (.iand, 1) := by decide +kernel
theorem dX7_eightLetGo_46 : decode cX7_eightLetGo 46 = .ok (.iload_n 1, 1) := by decide +kernel
theorem dX7_eightLetGo_47 : decode cX7_eightLetGo 47 = .ok (.iconst 0, 1) := by decide +kernel
theorem dX7_eightLetGo_48 : decode cX7_eightLetGo 48 = .ok (.invokestatic 44, 3) := by decide +kernel
theorem dX7_eightLetGo_51 : decode cX7_eightLetGo 51 = .ok (.istore 4, 2) := by decide +kernel
theorem dX7_eightLetGo_53 : decode cX7_eightLetGo 53 = .ok (.iload_n 3, 1) := by decide +kernel
theorem dX7_eightLetGo_54 : decode cX7_eightLetGo 54 = .ok (.ifCond .eq 16, 3) := by decide +kernel
theorem dX7_eightLetGo_57 : decode cX7_eightLetGo 57 = .ok (.iload_n 2, 1) := by decide +kernel
theorem dX7_eightLetGo_58 : decode cX7_eightLetGo 58 = .ok (.iload 4, 2) := by decide +kernel
theorem dX7_eightLetGo_60 : decode cX7_eightLetGo 60 = .ok (.iconst (-1), 1) := by decide +kernel
theorem dX7_eightLetGo_61 : decode cX7_eightLetGo 61 = .ok (.ixor, 1) := by decide +kernel
theorem dX7_eightLetGo_62 : decode cX7_eightLetGo 62 = .ok (.iand, 1) := by decide +kernel
theorem dX7_eightLetGo_63 : decode cX7_eightLetGo 63 = .ok (.ifCond .ne 7, 3) := by decide +kernel
theorem dX7_eightLetGo_66 : decode cX7_eightLetGo 66 = .ok (.iconst 1, 1) := by decide +kernel
theorem dX7_eightLetGo_67 : decode cX7_eightLetGo 67 = .ok (.goto 4, 3) := by decide +kernel
theorem dX7_eightLetGo_70 : decode cX7_eightLetGo 70 = .ok (.iconst 0, 1) := by decide +kernel
theorem dX7_eightLetGo_71 : decode cX7_eightLetGo 71 = .ok (.ireturn, 1) := by decide +kernel
set_option maxRecDepth 20000 in
theorem ggX7_partWith_X7_turned : GoodIn wsX7_partWith wsX7_turned := goodIn_r _ [4] rfl (by decide +kernel)
set_option maxRecDepth 20000 in
theorem gX7_partWith_X7_turned : GoodIn wsX7_partWith (va_wsS RX7 48 yX7_turned wsX7_turned) := goodIn_app (goodIn_of _ (by decide +kernel)) ggX7_partWith_X7_turned
theorem dX7_partWith_0 : decode cX7_partWith 0 = .ok (.iload_n 0, 1) := by decide +kernel
theorem dX7_partWith_1 : decode cX7_partWith 1 = .ok (.istore_n 3, 1) := by decide +kernel
theorem dX7_partWith_2 : decode cX7_partWith 2 = .ok (.iconst 0, 1) := by decide +kernel
theorem dX7_partWith_3 : decode cX7_partWith 3 = .ok (.istore 4, 2) := by decide +kernel
theorem dX7_partWith_5 : decode cX7_partWith 5 = .ok (.iload 4, 2) := by decide +kernel
theorem dX7_partWith_7 : decode cX7_partWith 7 = .ok (.bipush 8, 2) := by decide +kernel
theorem dX7_partWith_9 : decode cX7_partWith 9 = .ok (.if_icmp .ge 57, 3) := by decide +kernel
theorem dX7_partWith_12 : decode cX7_partWith 12 = .ok (.iload_n 3, 1) := by decide +kernel
theorem dX7_partWith_13 : decode cX7_partWith 13 = .ok (.iconst 1, 1) := by decide +kernel
theorem dX7_partWith_14 : decode cX7_partWith 14 = .ok (.invokestatic 48, 3) := by decide +kernel
theorem dX7_partWith_17 : decode cX7_partWith 17 = .ok (.iload_n 3, 1) := by decide +kernel
theorem dX7_partWith_18 : decode cX7_partWith 18 = .ok (.bipush 7, 2) := by decide +kernel
theorem dX7_partWith_20 : decode cX7_partWith 20 = .ok (.invokestatic 48, 3) := by decide +kernel
theorem dX7_partWith_23 : decode cX7_partWith 23 = .ok (.ior, 1) := by decide +kernel
theorem dX7_partWith_24 : decode cX7_partWith 24 = .ok (.istore 5, 2) := by decide +kernel
theorem dX7_partWith_26 : decode cX7_partWith 26 = .ok (.iload_n 2, 1) := by decide +kernel
theorem dX7_partWith_27 : decode cX7_partWith 27 = .ok (.ifCond .eq 26, 3) := by decide +kernel
theorem dX7_partWith_30 : decode cX7_partWith 30 = .ok (.iload 5, 2) := by decide +kernel
theorem dX7_partWith_32 : decode cX7_partWith 32 = .ok (.iload_n 3, 1) := by decide +kernel
theorem dX7_partWith_33 : decode cX7_partWith 33 = .ok (.bipush 85, 2) := by decide +kernel
theorem dX7_partWith_35 : decode cX7_partWith 35 = .ok (.iand, 1) := by decide +kernel
theorem dX7_partWith_36 : decode cX7_partWith 36 = .ok (.iconst 2, 1) := by decide +kernel
theorem dX7_partWith_37 : decode cX7_partWith 37 = .ok (.invokestatic 48, 3) := by decide +kernel
theorem dX7_partWith_40 : decode cX7_partWith 40 = .ok (.iload_n 3, 1) := by decide +kernel
theorem dX7_partWith_41 : decode cX7_partWith 41 = .ok (.bipush 85, 2) := by decide +kernel
theorem dX7_partWith_43 : decode cX7_partWith 43 = .ok (.iand, 1) := by decide +kernel
theorem dX7_partWith_44 : decode cX7_partWith 44 = .ok (.bipush 6, 2) := by decide +kernel
theorem dX7_partWith_46 : decode cX7_partWith 46 = .ok (.invokestatic 48, 3) := by decide +kernel
theorem dX7_partWith_49 : decode cX7_partWith 49 = .ok (.ior, 1) := by decide +kernel
theorem dX7_partWith_50 : decode cX7_partWith 50 = .ok (.ior, 1) := by decide +kernel
theorem dX7_partWith_51 : decode cX7_partWith 51 = .ok (.istore 5, 2) := by decide +kernel
theorem dX7_partWith_53 : decode cX7_partWith 53 = .ok (.iload_n 3, 1) := by decide +kernel
theorem dX7_partWith_54 : decode cX7_partWith 54 = .ok (.iload 5, 2) := by decide +kernel
theorem dX7_partWith_56 : decode cX7_partWith 56 = .ok (.iload_n 1, 1) := by decide +kernel
theorem dX7_partWith_57 : decode cX7_partWith 57 = .ok (.iand, 1) := by decide +kernel
theorem dX7_partWith_58 : decode cX7_partWith 58 = .ok (.ior, 1) := by decide +kernel
theorem dX7_partWith_59 : decode cX7_partWith 59 = .ok (.istore_n 3, 1) := by decide +kernel
theorem dX7_partWith_60 : decode cX7_partWith 60 = .ok (.iinc 4 1, 3) := by decide +kernel
theorem dX7_partWith_63 : decode cX7_partWith 63 = .ok (.goto (-58), 3) := by decide +kernel
theorem dX7_partWith_66 : decode cX7_partWith 66 = .ok (.iload_n 3, 1) := by decide +kernel
theorem dX7_partWith_67 : decode cX7_partWith 67 = .ok (.ireturn, 1) := by decide +kernel
theorem dX7_turned_0 : decode cX7_turned 0 = .ok (.iload_n 0, 1) := by decide +kernel
theorem dX7_turned_1 : decode cX7_turned 1 = .ok (.iload_n 1, 1) := by decide +kernel
theorem dX7_turned_2 : decode cX7_turned 2 = .ok (.ishl, 1) := by decide +kernel
theorem dX7_turned_3 : decode cX7_turned 3 = .ok (.iload_n 0, 1) := by decide +kernel
theorem dX7_turned_4 : decode cX7_turned 4 = .ok (.bipush 8, 2) := by decide +kernel
theorem dX7_turned_6 : decode cX7_turned 6 = .ok (.iload_n 1, 1) := by decide +kernel
theorem dX7_turned_7 : decode cX7_turned 7 = .ok (.isub, 1) := by decide +kernel
theorem dX7_turned_8 : decode cX7_turned 8 = .ok (.ishr, 1) := by decide +kernel
theorem dX7_turned_9 : decode cX7_turned 9 = .ok (.ior, 1) := by decide +kernel
theorem dX7_turned_10 : decode cX7_turned 10 = .ok (.sipush 255, 3) := by decide +kernel
theorem dX7_turned_13 : decode cX7_turned 13 = .ok (.iand, 1) := by decide +kernel
theorem dX7_turned_14 : decode cX7_turned 14 = .ok (.ireturn, 1) := by decide +kernel
theorem dX8_init_0 : decode cX8_init 0 = .ok (.aload_n 0, 1) := by decide +kernel
theorem dX8_init_1 : decode cX8_init 1 = .ok (.invokespecial 3, 3) := by decide +kernel
theorem dX8_init_4 : decode cX8_init 4 = .ok (.aload_n 0, 1) := by decide +kernel
theorem dX8_init_5 : decode cX8_init 5 = .ok (.sipush 144, 3) := by decide +kernel
theorem dX8_init_8 : decode cX8_init 8 = .ok (.newarray .boolean, 2) := by decide +kernel
theorem dX8_init_10 : decode cX8_init 10 = .ok (.putfield 9, 3) := by decide +kernel
theorem dX8_init_13 : decode cX8_init 13 = .ok (.return_, 1) := by decide +kernel
set_option maxRecDepth 20000 in
theorem ggX8_follow_X2_columnOf : GoodIn wsX8_follow wsX2_columnOf := goodIn_r _ [6, 7, 46, 47, 48] rfl (by decide +kernel)
set_option maxRecDepth 20000 in
theorem gX8_follow_X2_columnOf : GoodIn wsX8_follow (wsV RX8 15 RX2 yX2_columnOf wsX2_columnOf) := goodIn_app (goodIn_of _ (by decide +kernel)) ggX8_follow_X2_columnOf
set_option maxRecDepth 20000 in
theorem ggX8_follow_X2_lineOf : GoodIn wsX8_follow wsX2_lineOf := goodIn_r _ [11, 7, 46, 47, 48] rfl (by decide +kernel)
set_option maxRecDepth 20000 in
theorem gX8_follow_X2_lineOf : GoodIn wsX8_follow (wsV RX8 21 RX2 yX2_lineOf wsX2_lineOf) := goodIn_app (goodIn_of _ (by decide +kernel)) ggX8_follow_X2_lineOf
set_option maxRecDepth 20000 in
theorem ggX8_follow_X6_steps : GoodIn wsX8_follow wsX6_steps := goodIn_r _ [16, 17, 49, 50, 51, 52] rfl (by decide +kernel)
set_option maxRecDepth 20000 in
theorem gX8_follow_X6_steps : GoodIn wsX8_follow (wsV RX8 24 RX6 yX6_steps wsX6_steps) := goodIn_app (goodIn_of _ (by decide +kernel)) ggX8_follow_X6_steps
set_option maxRecDepth 20000 in
theorem ggX8_follow_X6_xOf : GoodIn wsX8_follow wsX6_xOf := goodIn_r _ [21, 22, 23, 24, 25, 15, 26, 17, 49, 50, 51, 52] rfl (by decide +kernel)
set_option maxRecDepth 20000 in
theorem gX8_follow_X6_xOf : GoodIn wsX8_follow (wsV RX8 30 RX6 yX6_xOf wsX6_xOf) := goodIn_app (goodIn_of _ (by decide +kernel)) ggX8_follow_X6_xOf
set_option maxRecDepth 20000 in
theorem ggX8_follow_X6_yOf : GoodIn wsX8_follow wsX6_yOf := goodIn_r _ [30, 31, 23, 24, 25, 15, 26, 17, 49, 50, 51, 52] rfl (by decide +kernel)
set_option maxRecDepth 20000 in
theorem gX8_follow_X6_yOf : GoodIn wsX8_follow (wsV RX8 33 RX6 yX6_yOf wsX6_yOf) := goodIn_app (goodIn_of _ (by decide +kernel)) ggX8_follow_X6_yOf
set_option maxRecDepth 20000 in
theorem ggX8_follow_X2_fieldAt : GoodIn wsX8_follow wsX2_fieldAt := goodIn_r _ [35, 7, 36, 46, 47, 48] rfl (by decide +kernel)
set_option maxRecDepth 20000 in
theorem gX8_follow_X2_fieldAt : GoodIn wsX8_follow (wsV RX8 36 RX2 yX2_fieldAt wsX2_fieldAt) := goodIn_app (goodIn_of _ (by decide +kernel)) ggX8_follow_X2_fieldAt
set_option maxRecDepth 20000 in
theorem ggX8_follow_X2_knows : GoodIn wsX8_follow wsX2_knows := goodIn_r _ [40, 41, 42, 43, 5, 44, 7, 36, 46, 47, 48] rfl (by decide +kernel)
set_option maxRecDepth 20000 in
theorem gX8_follow_X2_knows : GoodIn wsX8_follow (wsV RX8 40 RX2 yX2_knows wsX2_knows) := goodIn_app (goodIn_of _ (by decide +kernel)) ggX8_follow_X2_knows
theorem dX8_follow_0 : decode cX8_follow 0 = .ok (.iconst 0, 1) := by decide +kernel
theorem dX8_follow_1 : decode cX8_follow 1 = .ok (.istore 4, 2) := by decide +kernel
theorem dX8_follow_3 : decode cX8_follow 3 = .ok (.iload 4, 2) := by decide +kernel
theorem dX8_follow_5 : decode cX8_follow 5 = .ok (.sipush 144, 3) := by decide +kernel
theorem dX8_follow_8 : decode cX8_follow 8 = .ok (.if_icmp .ge 17, 3) := by decide +kernel
theorem dX8_follow_11 : decode cX8_follow 11 = .ok (.aload_n 0, 1) := by decide +kernel
theorem dX8_follow_12 : decode cX8_follow 12 = .ok (.getfield 9, 3) := by decide +kernel
theorem dX8_follow_15 : decode cX8_follow 15 = .ok (.iload 4, 2) := by decide +kernel
theorem dX8_follow_17 : decode cX8_follow 17 = .ok (.iconst 0, 1) := by decide +kernel
theorem dX8_follow_18 : decode cX8_follow 18 = .ok (.bastore, 1) := by decide +kernel
theorem dX8_follow_19 : decode cX8_follow 19 = .ok (.iinc 4 1, 3) := by decide +kernel
theorem dX8_follow_22 : decode cX8_follow 22 = .ok (.goto (-19), 3) := by decide +kernel
theorem dX8_follow_25 : decode cX8_follow 25 = .ok (.aload_n 2, 1) := by decide +kernel
theorem dX8_follow_26 : decode cX8_follow 26 = .ok (.iload_n 3, 1) := by decide +kernel
theorem dX8_follow_27 : decode cX8_follow 27 = .ok (.invokevirtual 15, 3) := by decide +kernel
theorem dX8_follow_30 : decode cX8_follow 30 = .ok (.istore 4, 2) := by decide +kernel
theorem dX8_follow_32 : decode cX8_follow 32 = .ok (.aload_n 2, 1) := by decide +kernel
theorem dX8_follow_33 : decode cX8_follow 33 = .ok (.iload_n 3, 1) := by decide +kernel
theorem dX8_follow_34 : decode cX8_follow 34 = .ok (.invokevirtual 21, 3) := by decide +kernel
theorem dX8_follow_37 : decode cX8_follow 37 = .ok (.istore 5, 2) := by decide +kernel
theorem dX8_follow_39 : decode cX8_follow 39 = .ok (.iconst 0, 1) := by decide +kernel
theorem dX8_follow_40 : decode cX8_follow 40 = .ok (.istore 6, 2) := by decide +kernel
theorem dX8_follow_42 : decode cX8_follow 42 = .ok (.iload 6, 2) := by decide +kernel
theorem dX8_follow_44 : decode cX8_follow 44 = .ok (.aload_n 1, 1) := by decide +kernel
theorem dX8_follow_45 : decode cX8_follow 45 = .ok (.invokevirtual 24, 3) := by decide +kernel
theorem dX8_follow_48 : decode cX8_follow 48 = .ok (.if_icmp .gt 52, 3) := by decide +kernel
theorem dX8_follow_51 : decode cX8_follow 51 = .ok (.aload_n 2, 1) := by decide +kernel
theorem dX8_follow_52 : decode cX8_follow 52 = .ok (.iload 4, 2) := by decide +kernel
theorem dX8_follow_54 : decode cX8_follow 54 = .ok (.aload_n 1, 1) := by decide +kernel
theorem dX8_follow_55 : decode cX8_follow 55 = .ok (.iload 6, 2) := by decide +kernel
theorem dX8_follow_57 : decode cX8_follow 57 = .ok (.invokevirtual 30, 3) := by decide +kernel
theorem dX8_follow_60 : decode cX8_follow 60 = .ok (.iadd, 1) := by decide +kernel
theorem dX8_follow_61 : decode cX8_follow 61 = .ok (.iload 5, 2) := by decide +kernel
theorem dX8_follow_63 : decode cX8_follow 63 = .ok (.aload_n 1, 1) := by decide +kernel
theorem dX8_follow_64 : decode cX8_follow 64 = .ok (.iload 6, 2) := by decide +kernel
theorem dX8_follow_66 : decode cX8_follow 66 = .ok (.invokevirtual 33, 3) := by decide +kernel
theorem dX8_follow_69 : decode cX8_follow 69 = .ok (.iadd, 1) := by decide +kernel
theorem dX8_follow_70 : decode cX8_follow 70 = .ok (.invokevirtual 36, 3) := by decide +kernel
theorem dX8_follow_73 : decode cX8_follow 73 = .ok (.istore 7, 2) := by decide +kernel
theorem dX8_follow_75 : decode cX8_follow 75 = .ok (.aload_n 2, 1) := by decide +kernel
theorem dX8_follow_76 : decode cX8_follow 76 = .ok (.iload 7, 2) := by decide +kernel
theorem dX8_follow_78 : decode cX8_follow 78 = .ok (.invokevirtual 40, 3) := by decide +kernel
theorem dX8_follow_81 : decode cX8_follow 81 = .ok (.ifCond .ne 5, 3) := by decide +kernel
theorem dX8_follow_84 : decode cX8_follow 84 = .ok (.iconst 0, 1) := by decide +kernel
theorem dX8_follow_85 : decode cX8_follow 85 = .ok (.ireturn, 1) := by decide +kernel
theorem dX8_follow_86 : decode cX8_follow 86 = .ok (.aload_n 0, 1) := by decide +kernel
theorem dX8_follow_87 : decode cX8_follow 87 = .ok (.getfield 9, 3) := by decide +kernel
theorem dX8_follow_90 : decode cX8_follow 90 = .ok (.iload 7, 2) := by decide +kernel
theorem dX8_follow_92 : decode cX8_follow 92 = .ok (.iconst 1, 1) := by decide +kernel
theorem dX8_follow_93 : decode cX8_follow 93 = .ok (.bastore, 1) := by decide +kernel
theorem dX8_follow_94 : decode cX8_follow 94 = .ok (.iinc 6 1, 3) := by decide +kernel
theorem dX8_follow_97 : decode cX8_follow 97 = .ok (.goto (-55), 3) := by decide +kernel
theorem dX8_follow_100 : decode cX8_follow 100 = .ok (.iconst 1, 1) := by decide +kernel
theorem dX8_follow_101 : decode cX8_follow 101 = .ok (.ireturn, 1) := by decide +kernel
set_option maxRecDepth 20000 in
theorem ggX8_shutIn_X4_split : GoodIn wsX8_shutIn wsX4_split := goodIn_r _ [6, 7, 8, 9, 10, 11, 12, 13, 14, 15, 16, 17, 18, 19, 20, 21, 5, 22, 23, 24, 25, 26, 27, 28, 29, 30, 31, 32, 33, 34, 35, 36, 37, 38, 39, 40, 62, 63, 64, 65, 66, 67] rfl (by decide +kernel)
set_option maxRecDepth 20000 in
theorem gX8_shutIn_X4_split : GoodIn wsX8_shutIn (wsV RX8 44 RX4 yX4_split wsX4_split) := goodIn_app (goodIn_of _ (by decide +kernel)) ggX8_shutIn_X4_split
set_option maxRecDepth 20000 in
theorem ggX8_shutIn_X4_findOpen : GoodIn wsX8_shutIn wsX4_findOpen := goodIn_r _ [44, 45, 11, 12, 13, 14, 15, 16, 17, 18, 46, 47, 48, 49, 50, 25, 26, 27, 51, 29, 30, 31, 62, 63, 64, 65, 66, 67] rfl (by decide +kernel)
set_option maxRecDepth 20000 in
theorem gX8_shutIn_X4_findOpen : GoodIn wsX8_shutIn (wsV RX8 50 RX4 yX4_findOpen wsX4_findOpen) := goodIn_app (goodIn_of _ (by decide +kernel)) ggX8_shutIn_X4_findOpen
set_option maxRecDepth 20000 in
theorem ggX8_shutIn_X2_fields : GoodIn wsX8_shutIn wsX2_fields := goodIn_r _ [16, 17, 18, 65, 66, 67] rfl (by decide +kernel)
set_option maxRecDepth 20000 in
theorem gX8_shutIn_X2_fields : GoodIn wsX8_shutIn (wsV RX8 54 RX2 yX2_fields wsX2_fields) := goodIn_app (goodIn_of _ (by decide +kernel)) ggX8_shutIn_X2_fields
set_option maxRecDepth 20000 in
theorem ggX8_shutIn_X4_comesToEdge : GoodIn wsX8_shutIn wsX4_comesToEdge := goodIn_r _ [56, 45, 57, 58, 59, 5, 60, 11, 62, 63, 64] rfl (by decide +kernel)
set_option maxRecDepth 20000 in
theorem gX8_shutIn_X4_comesToEdge : GoodIn wsX8_shutIn (wsV RX8 57 RX4 yX4_comesToEdge wsX4_comesToEdge) := goodIn_app (goodIn_of _ (by decide +kernel)) ggX8_shutIn_X4_comesToEdge
theorem dX8_shutIn_0 : decode cX8_shutIn 0 = .ok (.aload_n 2, 1) := by decide +kernel
theorem dX8_shutIn_1 : decode cX8_shutIn 1 = .ok (.aload_n 1, 1) := by decide +kernel
theorem dX8_shutIn_2 : decode cX8_shutIn 2 = .ok (.aload_n 0, 1) := by decide +kernel
theorem dX8_shutIn_3 : decode cX8_shutIn 3 = .ok (.getfield 9, 3) := by decide +kernel
theorem dX8_shutIn_6 : decode cX8_shutIn 6 = .ok (.iconst 0, 1) := by decide +kernel
theorem dX8_shutIn_7 : decode cX8_shutIn 7 = .ok (.iconst 0, 1) := by decide +kernel
theorem dX8_shutIn_8 : decode cX8_shutIn 8 = .ok (.invokevirtual 44, 3) := by decide +kernel
theorem dX8_shutIn_11 : decode cX8_shutIn 11 = .ok (.pop, 1) := by decide +kernel
theorem dX8_shutIn_12 : decode cX8_shutIn 12 = .ok (.aload_n 2, 1) := by decide +kernel
theorem dX8_shutIn_13 : decode cX8_shutIn 13 = .ok (.aload_n 1, 1) := by decide +kernel
theorem dX8_shutIn_14 : decode cX8_shutIn 14 = .ok (.invokevirtual 50, 3) := by decide +kernel
theorem dX8_shutIn_17 : decode cX8_shutIn 17 = .ok (.iconst 0, 1) := by decide +kernel
theorem dX8_shutIn_18 : decode cX8_shutIn 18 = .ok (.istore_n 3, 1) := by decide +kernel
theorem dX8_shutIn_19 : decode cX8_shutIn 19 = .ok (.iload_n 3, 1) := by decide +kernel
theorem dX8_shutIn_20 : decode cX8_shutIn 20 = .ok (.aload_n 1, 1) := by decide +kernel
theorem dX8_shutIn_21 : decode cX8_shutIn 21 = .ok (.invokevirtual 54, 3) := by decide +kernel
theorem dX8_shutIn_24 : decode cX8_shutIn 24 = .ok (.if_icmp .ge 24, 3) := by decide +kernel
theorem dX8_shutIn_27 : decode cX8_shutIn 27 = .ok (.aload_n 2, 1) := by decide +kernel
theorem dX8_shutIn_28 : decode cX8_shutIn 28 = .ok (.iload_n 3, 1) := by decide +kernel
theorem dX8_shutIn_29 : decode cX8_shutIn 29 = .ok (.invokevirtual 57, 3) := by decide +kernel
theorem dX8_shutIn_32 : decode cX8_shutIn 32 = .ok (.ifCond .ne 10, 3) := by decide +kernel
theorem dX8_shutIn_35 : decode cX8_shutIn 35 = .ok (.aload_n 0, 1) := by decide +kernel
theorem dX8_shutIn_36 : decode cX8_shutIn 36 = .ok (.getfield 9, 3) := by decide +kernel
theorem dX8_shutIn_39 : decode cX8_shutIn 39 = .ok (.iload_n 3, 1) := by decide +kernel
theorem dX8_shutIn_40 : decode cX8_shutIn 40 = .ok (.iconst 1, 1) := by decide +kernel
theorem dX8_shutIn_41 : decode cX8_shutIn 41 = .ok (.bastore, 1) := by decide +kernel
theorem dX8_shutIn_42 : decode cX8_shutIn 42 = .ok (.iinc 3 1, 3) := by decide +kernel
theorem dX8_shutIn_45 : decode cX8_shutIn 45 = .ok (.goto (-26), 3) := by decide +kernel
theorem dX8_shutIn_48 : decode cX8_shutIn 48 = .ok (.return_, 1) := by decide +kernel
set_option maxRecDepth 20000 in
theorem ggX8_pourInto_X2_fields : GoodIn wsX8_pourInto wsX2_fields := goodIn_r _ [6, 7, 8, 20, 21, 22] rfl (by decide +kernel)
set_option maxRecDepth 20000 in
theorem gX8_pourInto_X2_fields : GoodIn wsX8_pourInto (wsV RX8 54 RX2 yX2_fields wsX2_fields) := goodIn_app (goodIn_of _ (by decide +kernel)) ggX8_pourInto_X2_fields
set_option maxRecDepth 20000 in
theorem ggX8_pourInto_X2_put : GoodIn wsX8_pourInto wsX2_put := goodIn_r _ [12, 13, 14, 15, 16, 5, 17, 18, 3, 4, 6, 7, 8, 20, 21, 22] rfl (by decide +kernel)
set_option maxRecDepth 20000 in
theorem gX8_pourInto_X2_put : GoodIn wsX8_pourInto (wsV RX8 60 RX2 yX2_put wsX2_put) := goodIn_app (goodIn_of _ (by decide +kernel)) ggX8_pourInto_X2_put
theorem dX8_pourInto_0 : decode cX8_pourInto 0 = .ok (.iconst 0, 1) := by decide +kernel
theorem dX8_pourInto_1 : decode cX8_pourInto 1 = .ok (.istore_n 2, 1) := by decide +kernel
theorem dX8_pourInto_2 : decode cX8_pourInto 2 = .ok (.iload_n 2, 1) := by decide +kernel
theorem dX8_pourInto_3 : decode cX8_pourInto 3 = .ok (.aload_n 1, 1) := by decide +kernel
theorem dX8_pourInto_4 : decode cX8_pourInto 4 = .ok (.invokevirtual 54, 3) := by decide +kernel
theorem dX8_pourInto_7 : decode cX8_pourInto 7 = .ok (.if_icmp .ge 24, 3) := by decide +kernel
theorem dX8_pourInto_10 : decode cX8_pourInto 10 = .ok (.aload_n 0, 1) := by decide +kernel
theorem dX8_pourInto_11 : decode cX8_pourInto 11 = .ok (.getfield 9, 3) := by decide +kernel
theorem dX8_pourInto_14 : decode cX8_pourInto 14 = .ok (.iload_n 2, 1) := by decide +kernel
theorem dX8_pourInto_15 : decode cX8_pourInto 15 = .ok (.baload, 1) := by decide +kernel
theorem dX8_pourInto_16 : decode cX8_pourInto 16 = .ok (.ifCond .eq 9, 3) := by decide +kernel
theorem dX8_pourInto_19 : decode cX8_pourInto 19 = .ok (.aload_n 1, 1) := by decide +kernel
theorem dX8_pourInto_20 : decode cX8_pourInto 20 = .ok (.iload_n 2, 1) := by decide +kernel
theorem dX8_pourInto_21 : decode cX8_pourInto 21 = .ok (.iconst 1, 1) := by decide +kernel
theorem dX8_pourInto_22 : decode cX8_pourInto 22 = .ok (.invokevirtual 60, 3) := by decide +kernel
theorem dX8_pourInto_25 : decode cX8_pourInto 25 = .ok (.iinc 2 1, 3) := by decide +kernel
theorem dX8_pourInto_28 : decode cX8_pourInto 28 = .ok (.goto (-26), 3) := by decide +kernel
theorem dX8_pourInto_31 : decode cX8_pourInto 31 = .ok (.return_, 1) := by decide +kernel
set_option maxRecDepth 20000 in
theorem ggX9_init_X6_init : GoodIn wsX9_init wsX6_init := goodIn_r _ [41, 42, 2, 3, 43, 44, 45, 46, 84, 85, 86, 87] rfl (by decide +kernel)
set_option maxRecDepth 20000 in
theorem gX9_init_X6_init_n11 : GoodIn wsX9_init (wsX6_init) := ggX9_init_X6_init
set_option maxRecDepth 20000 in
theorem ggX9_init_X5_init : GoodIn wsX9_init wsX5_init := goodIn_r _ [48, 49, 2, 3, 43, 50, 97, 98, 99, 100, 101, 102, 103] rfl (by decide +kernel)
set_option maxRecDepth 20000 in
theorem gX9_init_X5_init_n18 : GoodIn wsX9_init (wsX5_init) := ggX9_init_X5_init
set_option maxRecDepth 20000 in
theorem ggX9_init_X2_init : GoodIn wsX9_init wsX2_init := goodIn_r _ [52, 53, 2, 3, 54, 55, 56, 57, 104, 105, 106] rfl (by decide +kernel)
set_option maxRecDepth 20000 in
theorem gX9_init_X2_init_n25 : GoodIn wsX9_init (wsX2_init) := ggX9_init_X2_init
set_option maxRecDepth 20000 in
theorem ggX9_init_X4_init : GoodIn wsX9_init wsX4_init := goodIn_r _ [59, 60, 2, 3, 43, 61, 62, 54, 63, 107, 108, 109] rfl (by decide +kernel)
set_option maxRecDepth 20000 in
theorem gX9_init_X4_init_n32 : GoodIn wsX9_init (wsX4_init) := ggX9_init_X4_init
set_option maxRecDepth 20000 in
theorem ggX9_init_X8_init : GoodIn wsX9_init wsX8_init := goodIn_r _ [65, 66, 2, 3, 54, 67, 110] rfl (by decide +kernel)
set_option maxRecDepth 20000 in
theorem gX9_init_X8_init_n39 : GoodIn wsX9_init (wsX8_init) := ggX9_init_X8_init
set_option maxRecDepth 20000 in
theorem ggX9_init_X3_init : GoodIn wsX9_init wsX3_init := goodIn_r _ [69, 70, 2, 3, 43, 71, 72, 111, 112, 113] rfl (by decide +kernel)
set_option maxRecDepth 20000 in
theorem gX9_init_X3_init_n46 : GoodIn wsX9_init (wsX3_init) := ggX9_init_X3_init
set_option maxRecDepth 20000 in
theorem ggX9_init_X0_init : GoodIn wsX9_init wsX0_init := goodIn_r _ [74, 75, 2, 3, 43, 76, 114] rfl (by decide +kernel)
set_option maxRecDepth 20000 in
theorem gX9_init_X0_init_n53 : GoodIn wsX9_init (wsX0_init) := ggX9_init_X0_init
set_option maxRecDepth 20000 in
theorem ggX9_init_X1_init : GoodIn wsX9_init wsX1_init := goodIn_r _ [78, 79, 2, 3] rfl (by decide +kernel)
set_option maxRecDepth 20000 in
theorem gX9_init_X1_init_n60 : GoodIn wsX9_init (wsX1_init) := ggX9_init_X1_init
set_option maxRecDepth 20000 in
theorem ggX9_init_X7_init : GoodIn wsX9_init wsX7_init := goodIn_r _ [81, 82, 2, 3, 54, 83, 118] rfl (by decide +kernel)
set_option maxRecDepth 20000 in
theorem gX9_init_X7_init_n67 : GoodIn wsX9_init (wsX7_init) := ggX9_init_X7_init
theorem dX9_init_0 : decode cX9_init 0 = .ok (.aload_n 0, 1) := by decide +kernel
theorem dX9_init_1 : decode cX9_init 1 = .ok (.invokespecial 3, 3) := by decide +kernel
theorem dX9_init_4 : decode cX9_init 4 = .ok (.aload_n 0, 1) := by decide +kernel
theorem dX9_init_5 : decode cX9_init 5 = .ok (.new 9, 3) := by decide +kernel
theorem dX9_init_8 : decode cX9_init 8 = .ok (.dup, 1) := by decide +kernel
theorem dX9_init_9 : decode cX9_init 9 = .ok (.invokespecial 11, 3) := by decide +kernel
theorem dX9_init_12 : decode cX9_init 12 = .ok (.putfield 12, 3) := by decide +kernel
theorem dX9_init_15 : decode cX9_init 15 = .ok (.aload_n 0, 1) := by decide +kernel
theorem dX9_init_16 : decode cX9_init 16 = .ok (.new 16, 3) := by decide +kernel
theorem dX9_init_19 : decode cX9_init 19 = .ok (.dup, 1) := by decide +kernel
theorem dX9_init_20 : decode cX9_init 20 = .ok (.invokespecial 18, 3) := by decide +kernel
theorem dX9_init_23 : decode cX9_init 23 = .ok (.putfield 19, 3) := by decide +kernel
theorem dX9_init_26 : decode cX9_init 26 = .ok (.aload_n 0, 1) := by decide +kernel
theorem dX9_init_27 : decode cX9_init 27 = .ok (.new 23, 3) := by decide +kernel
theorem dX9_init_30 : decode cX9_init 30 = .ok (.dup, 1) := by decide +kernel
theorem dX9_init_31 : decode cX9_init 31 = .ok (.invokespecial 25, 3) := by decide +kernel
theorem dX9_init_34 : decode cX9_init 34 = .ok (.putfield 26, 3) := by decide +kernel
theorem dX9_init_37 : decode cX9_init 37 = .ok (.aload_n 0, 1) := by decide +kernel
theorem dX9_init_38 : decode cX9_init 38 = .ok (.new 30, 3) := by decide +kernel
theorem dX9_init_41 : decode cX9_init 41 = .ok (.dup, 1) := by decide +kernel
theorem dX9_init_42 : decode cX9_init 42 = .ok (.invokespecial 32, 3) := by decide +kernel
theorem dX9_init_45 : decode cX9_init 45 = .ok (.putfield 33, 3) := by decide +kernel
theorem dX9_init_48 : decode cX9_init 48 = .ok (.aload_n 0, 1) := by decide +kernel
theorem dX9_init_49 : decode cX9_init 49 = .ok (.new 37, 3) := by decide +kernel
theorem dX9_init_52 : decode cX9_init 52 = .ok (.dup, 1) := by decide +kernel
theorem dX9_init_53 : decode cX9_init 53 = .ok (.invokespecial 39, 3) := by decide +kernel
theorem dX9_init_56 : decode cX9_init 56 = .ok (.putfield 40, 3) := by decide +kernel
theorem dX9_init_59 : decode cX9_init 59 = .ok (.aload_n 0, 1) := by decide +kernel
theorem dX9_init_60 : decode cX9_init 60 = .ok (.new 44, 3) := by decide +kernel
theorem dX9_init_63 : decode cX9_init 63 = .ok (.dup, 1) := by decide +kernel
theorem dX9_init_64 : decode cX9_init 64 = .ok (.invokespecial 46, 3) := by decide +kernel
theorem dX9_init_67 : decode cX9_init 67 = .ok (.putfield 47, 3) := by decide +kernel
theorem dX9_init_70 : decode cX9_init 70 = .ok (.aload_n 0, 1) := by decide +kernel
theorem dX9_init_71 : decode cX9_init 71 = .ok (.new 51, 3) := by decide +kernel
theorem dX9_init_74 : decode cX9_init 74 = .ok (.dup, 1) := by decide +kernel
theorem dX9_init_75 : decode cX9_init 75 = .ok (.invokespecial 53, 3) := by decide +kernel
theorem dX9_init_78 : decode cX9_init 78 = .ok (.putfield 54, 3) := by decide +kernel
theorem dX9_init_81 : decode cX9_init 81 = .ok (.aload_n 0, 1) := by decide +kernel
theorem dX9_init_82 : decode cX9_init 82 = .ok (.new 58, 3) := by decide +kernel
theorem dX9_init_85 : decode cX9_init 85 = .ok (.dup, 1) := by decide +kernel
theorem dX9_init_86 : decode cX9_init 86 = .ok (.invokespecial 60, 3) := by decide +kernel
theorem dX9_init_89 : decode cX9_init 89 = .ok (.putfield 61, 3) := by decide +kernel
theorem dX9_init_92 : decode cX9_init 92 = .ok (.aload_n 0, 1) := by decide +kernel
theorem dX9_init_93 : decode cX9_init 93 = .ok (.new 65, 3) := by decide +kernel
theorem dX9_init_96 : decode cX9_init 96 = .ok (.dup, 1) := by decide +kernel
theorem dX9_init_97 : decode cX9_init 97 = .ok (.invokespecial 67, 3) := by decide +kernel
theorem dX9_init_100 : decode cX9_init 100 = .ok (.putfield 68, 3) := by decide +kernel
theorem dX9_init_103 : decode cX9_init 103 = .ok (.return_, 1) := by decide +kernel
set_option maxRecDepth 20000 in
theorem ggX9_step_X6_steps : GoodIn wsX9_step wsX6_steps := goodIn_r _ [6, 7, 24, 25, 26, 27] rfl (by decide +kernel)
set_option maxRecDepth 20000 in
theorem gX9_step_X6_steps : GoodIn wsX9_step (wsV RX9 72 RX6 yX6_steps wsX6_steps) := goodIn_app (goodIn_of _ (by decide +kernel)) ggX9_step_X6_steps
set_option maxRecDepth 20000 in
theorem ggX9_step_X6_append : GoodIn wsX9_step wsX6_append := goodIn_r _ [11, 7, 12, 13, 14, 24, 25, 26, 27] rfl (by decide +kernel)
set_option maxRecDepth 20000 in
theorem gX9_step_X6_append : GoodIn wsX9_step (wsV RX9 76 RX6 yX6_append wsX6_append) := goodIn_app (goodIn_of _ (by decide +kernel)) ggX9_step_X6_append
theorem dX9_step_0 : decode cX9_step 0 = .ok (.iload_n 1, 1) := by decide +kernel
theorem dX9_step_1 : decode cX9_step 1 = .ok (.ifCond .lt 9, 3) := by decide +kernel
theorem dX9_step_4 : decode cX9_step 4 = .ok (.iload_n 1, 1) := by decide +kernel
theorem dX9_step_5 : decode cX9_step 5 = .ok (.bipush 8, 2) := by decide +kernel
theorem dX9_step_7 : decode cX9_step 7 = .ok (.if_icmp .lt 7, 3) := by decide +kernel
theorem dX9_step_10 : decode cX9_step 10 = .ok (.sipush (-1002), 3) := by decide +kernel
theorem dX9_step_13 : decode cX9_step 13 = .ok (.ireturn, 1) := by decide +kernel
theorem dX9_step_14 : decode cX9_step 14 = .ok (.aload_n 0, 1) := by decide +kernel
theorem dX9_step_15 : decode cX9_step 15 = .ok (.getfield 12, 3) := by decide +kernel
theorem dX9_step_18 : decode cX9_step 18 = .ok (.invokevirtual 72, 3) := by decide +kernel
theorem dX9_step_21 : decode cX9_step 21 = .ok (.bipush 60, 2) := by decide +kernel
theorem dX9_step_23 : decode cX9_step 23 = .ok (.if_icmp .lt 7, 3) := by decide +kernel
theorem dX9_step_26 : decode cX9_step 26 = .ok (.sipush (-1004), 3) := by decide +kernel
theorem dX9_step_29 : decode cX9_step 29 = .ok (.ireturn, 1) := by decide +kernel
theorem dX9_step_30 : decode cX9_step 30 = .ok (.aload_n 0, 1) := by decide +kernel
theorem dX9_step_31 : decode cX9_step 31 = .ok (.getfield 12, 3) := by decide +kernel
theorem dX9_step_34 : decode cX9_step 34 = .ok (.iload_n 1, 1) := by decide +kernel
theorem dX9_step_35 : decode cX9_step 35 = .ok (.invokevirtual 76, 3) := by decide +kernel
theorem dX9_step_38 : decode cX9_step 38 = .ok (.aload_n 0, 1) := by decide +kernel
theorem dX9_step_39 : decode cX9_step 39 = .ok (.getfield 12, 3) := by decide +kernel
theorem dX9_step_42 : decode cX9_step 42 = .ok (.invokevirtual 72, 3) := by decide +kernel
theorem dX9_step_45 : decode cX9_step 45 = .ok (.ireturn, 1) := by decide +kernel
set_option maxRecDepth 20000 in
theorem ggX9_back_X6_steps : GoodIn wsX9_back wsX6_steps := goodIn_r _ [6, 7, 21, 22, 23, 24] rfl (by decide +kernel)
set_option maxRecDepth 20000 in
theorem gX9_back_X6_steps : GoodIn wsX9_back (wsV RX9 72 RX6 yX6_steps wsX6_steps) := goodIn_app (goodIn_of _ (by decide +kernel)) ggX9_back_X6_steps
set_option maxRecDepth 20000 in
theorem ggX9_back_X6_shorten : GoodIn wsX9_back wsX6_shorten := goodIn_r _ [11, 7, 21, 22, 23, 24] rfl (by decide +kernel)
set_option maxRecDepth 20000 in
theorem gX9_back_X6_shorten : GoodIn wsX9_back (wsV RX9 80 RX6 yX6_shorten wsX6_shorten) := goodIn_app (goodIn_of _ (by decide +kernel)) ggX9_back_X6_shorten
theorem dX9_back_0 : decode cX9_back 0 = .ok (.iload_n 1, 1) := by decide +kernel
theorem dX9_back_1 : decode cX9_back 1 = .ok (.iconst 1, 1) := by decide +kernel
theorem dX9_back_2 : decode cX9_back 2 = .ok (.if_icmp .lt 9, 3) := by decide +kernel
theorem dX9_back_5 : decode cX9_back 5 = .ok (.iload_n 1, 1) := by decide +kernel
theorem dX9_back_6 : decode cX9_back 6 = .ok (.bipush 60, 2) := by decide +kernel
theorem dX9_back_8 : decode cX9_back 8 = .ok (.if_icmp .le 7, 3) := by decide +kernel
theorem dX9_back_11 : decode cX9_back 11 = .ok (.sipush (-1002), 3) := by decide +kernel
theorem dX9_back_14 : decode cX9_back 14 = .ok (.ireturn, 1) := by decide +kernel
theorem dX9_back_15 : decode cX9_back 15 = .ok (.iload_n 1, 1) := by decide +kernel
theorem dX9_back_16 : decode cX9_back 16 = .ok (.aload_n 0, 1) := by decide +kernel
theorem dX9_back_17 : decode cX9_back 17 = .ok (.getfield 12, 3) := by decide +kernel
theorem dX9_back_20 : decode cX9_back 20 = .ok (.invokevirtual 72, 3) := by decide +kernel
theorem dX9_back_23 : decode cX9_back 23 = .ok (.if_icmp .le 7, 3) := by decide +kernel
theorem dX9_back_26 : decode cX9_back 26 = .ok (.sipush (-1003), 3) := by decide +kernel
theorem dX9_back_29 : decode cX9_back 29 = .ok (.ireturn, 1) := by decide +kernel
theorem dX9_back_30 : decode cX9_back 30 = .ok (.aload_n 0, 1) := by decide +kernel
theorem dX9_back_31 : decode cX9_back 31 = .ok (.getfield 12, 3) := by decide +kernel
theorem dX9_back_34 : decode cX9_back 34 = .ok (.iload_n 1, 1) := by decide +kernel
theorem dX9_back_35 : decode cX9_back 35 = .ok (.invokevirtual 80, 3) := by decide +kernel
theorem dX9_back_38 : decode cX9_back 38 = .ok (.aload_n 0, 1) := by decide +kernel
theorem dX9_back_39 : decode cX9_back 39 = .ok (.getfield 12, 3) := by decide +kernel
theorem dX9_back_42 : decode cX9_back 42 = .ok (.invokevirtual 72, 3) := by decide +kernel
theorem dX9_back_45 : decode cX9_back 45 = .ok (.ireturn, 1) := by decide +kernel
set_option maxRecDepth 20000 in
theorem ggX9_way_X6_hasStep : GoodIn wsX9_way wsX6_hasStep := goodIn_r _ [6, 7, 23, 24, 25, 26] rfl (by decide +kernel)
set_option maxRecDepth 20000 in
theorem gX9_way_X6_hasStep : GoodIn wsX9_way (wsV RX9 83 RX6 yX6_hasStep wsX6_hasStep) := goodIn_app (goodIn_of _ (by decide +kernel)) ggX9_way_X6_hasStep
set_option maxRecDepth 20000 in
theorem ggX9_way_X6_wayOf : GoodIn wsX9_way wsX6_wayOf := goodIn_r _ [11, 12, 13, 3, 4, 5, 6, 7, 23, 24, 25, 26] rfl (by decide +kernel)
set_option maxRecDepth 20000 in
theorem gX9_way_X6_wayOf : GoodIn wsX9_way (wsV RX9 87 RX6 yX6_wayOf wsX6_wayOf) := goodIn_app (goodIn_of _ (by decide +kernel)) ggX9_way_X6_wayOf
theorem dX9_way_0 : decode cX9_way 0 = .ok (.aload_n 0, 1) := by decide +kernel
theorem dX9_way_1 : decode cX9_way 1 = .ok (.getfield 12, 3) := by decide +kernel
theorem dX9_way_4 : decode cX9_way 4 = .ok (.iload_n 1, 1) := by decide +kernel
theorem dX9_way_5 : decode cX9_way 5 = .ok (.invokevirtual 83, 3) := by decide +kernel
theorem dX9_way_8 : decode cX9_way 8 = .ok (.ifCond .eq 14, 3) := by decide +kernel
theorem dX9_way_11 : decode cX9_way 11 = .ok (.aload_n 0, 1) := by decide +kernel
theorem dX9_way_12 : decode cX9_way 12 = .ok (.getfield 12, 3) := by decide +kernel
theorem dX9_way_15 : decode cX9_way 15 = .ok (.iload_n 1, 1) := by decide +kernel
theorem dX9_way_16 : decode cX9_way 16 = .ok (.invokevirtual 87, 3) := by decide +kernel
theorem dX9_way_19 : decode cX9_way 19 = .ok (.goto 6, 3) := by decide +kernel
theorem dX9_way_22 : decode cX9_way 22 = .ok (.sipush (-1001), 3) := by decide +kernel
theorem dX9_way_25 : decode cX9_way 25 = .ok (.ireturn, 1) := by decide +kernel
set_option maxRecDepth 20000 in
theorem ggX9_place_X6_hasPlace : GoodIn wsX9_place wsX6_hasPlace := goodIn_r _ [6, 7, 28, 29, 30, 31] rfl (by decide +kernel)
set_option maxRecDepth 20000 in
theorem gX9_place_X6_hasPlace : GoodIn wsX9_place (wsV RX9 91 RX6 yX6_hasPlace wsX6_hasPlace) := goodIn_app (goodIn_of _ (by decide +kernel)) ggX9_place_X6_hasPlace
set_option maxRecDepth 20000 in
theorem ggX9_place_X6_yOf : GoodIn wsX9_place wsX6_yOf := goodIn_r _ [11, 12, 13, 3, 4, 5, 6, 7, 28, 29, 30, 31] rfl (by decide +kernel)
set_option maxRecDepth 20000 in
theorem gX9_place_X6_yOf : GoodIn wsX9_place (wsV RX9 94 RX6 yX6_yOf wsX6_yOf) := goodIn_app (goodIn_of _ (by decide +kernel)) ggX9_place_X6_yOf
set_option maxRecDepth 20000 in
theorem ggX9_place_X6_xOf : GoodIn wsX9_place wsX6_xOf := goodIn_r _ [17, 18, 13, 3, 4, 5, 6, 7, 28, 29, 30, 31] rfl (by decide +kernel)
set_option maxRecDepth 20000 in
theorem gX9_place_X6_xOf : GoodIn wsX9_place (wsV RX9 97 RX6 yX6_xOf wsX6_xOf) := goodIn_app (goodIn_of _ (by decide +kernel)) ggX9_place_X6_xOf
theorem dX9_place_0 : decode cX9_place 0 = .ok (.aload_n 0, 1) := by decide +kernel
theorem dX9_place_1 : decode cX9_place 1 = .ok (.getfield 12, 3) := by decide +kernel
theorem dX9_place_4 : decode cX9_place 4 = .ok (.iload_n 1, 1) := by decide +kernel
theorem dX9_place_5 : decode cX9_place 5 = .ok (.invokevirtual 91, 3) := by decide +kernel
theorem dX9_place_8 : decode cX9_place 8 = .ok (.ifCond .ne 7, 3) := by decide +kernel
theorem dX9_place_11 : decode cX9_place 11 = .ok (.sipush (-1001), 3) := by decide +kernel
theorem dX9_place_14 : decode cX9_place 14 = .ok (.ireturn, 1) := by decide +kernel
theorem dX9_place_15 : decode cX9_place 15 = .ok (.iload_n 2, 1) := by decide +kernel
theorem dX9_place_16 : decode cX9_place 16 = .ok (.ifCond .eq 14, 3) := by decide +kernel
theorem dX9_place_19 : decode cX9_place 19 = .ok (.aload_n 0, 1) := by decide +kernel
theorem dX9_place_20 : decode cX9_place 20 = .ok (.getfield 12, 3) := by decide +kernel
theorem dX9_place_23 : decode cX9_place 23 = .ok (.iload_n 1, 1) := by decide +kernel
theorem dX9_place_24 : decode cX9_place 24 = .ok (.invokevirtual 94, 3) := by decide +kernel
theorem dX9_place_27 : decode cX9_place 27 = .ok (.goto 11, 3) := by decide +kernel
theorem dX9_place_30 : decode cX9_place 30 = .ok (.aload_n 0, 1) := by decide +kernel
theorem dX9_place_31 : decode cX9_place 31 = .ok (.getfield 12, 3) := by decide +kernel
theorem dX9_place_34 : decode cX9_place 34 = .ok (.iload_n 1, 1) := by decide +kernel
theorem dX9_place_35 : decode cX9_place 35 = .ok (.invokevirtual 97, 3) := by decide +kernel
theorem dX9_place_38 : decode cX9_place 38 = .ok (.ireturn, 1) := by decide +kernel
set_option maxRecDepth 20000 in
theorem ggX9_draw_X6_steps : GoodIn wsX9_draw wsX6_steps := goodIn_r _ [13, 14, 45, 46, 47, 48] rfl (by decide +kernel)
set_option maxRecDepth 20000 in
theorem gX9_draw_X6_steps : GoodIn wsX9_draw (wsV RX9 72 RX6 yX6_steps wsX6_steps) := goodIn_app (goodIn_of _ (by decide +kernel)) ggX9_draw_X6_steps
set_option maxRecDepth 20000 in
theorem ggX9_draw_X6_appendLine : GoodIn wsX9_draw wsX6_appendLine := goodIn_r _ [18, 19, 20, 12, 21, 22, 23, 24, 25, 26, 27, 28, 29, 30, 31, 32, 14, 33, 34, 35, 45, 46, 47, 48] rfl (by decide +kernel)
set_option maxRecDepth 20000 in
theorem gX9_draw_X6_appendLine : GoodIn wsX9_draw (wsV RX9 109 RX6 yX6_appendLine wsX6_appendLine) := goodIn_app (goodIn_of _ (by decide +kernel)) ggX9_draw_X6_appendLine
theorem dX9_draw_0 : decode cX9_draw 0 = .ok (.iload_n 1, 1) := by decide +kernel
theorem dX9_draw_1 : decode cX9_draw 1 = .ok (.bipush (-60), 2) := by decide +kernel
theorem dX9_draw_3 : decode cX9_draw 3 = .ok (.if_icmp .lt 21, 3) := by decide +kernel
theorem dX9_draw_6 : decode cX9_draw 6 = .ok (.iload_n 1, 1) := by decide +kernel
theorem dX9_draw_7 : decode cX9_draw 7 = .ok (.bipush 60, 2) := by decide +kernel
theorem dX9_draw_9 : decode cX9_draw 9 = .ok (.if_icmp .gt 15, 3) := by decide +kernel
theorem dX9_draw_12 : decode cX9_draw 12 = .ok (.iload_n 2, 1) := by decide +kernel
theorem dX9_draw_13 : decode cX9_draw 13 = .ok (.bipush (-60), 2) := by decide +kernel
theorem dX9_draw_15 : decode cX9_draw 15 = .ok (.if_icmp .lt 9, 3) := by decide +kernel
theorem dX9_draw_18 : decode cX9_draw 18 = .ok (.iload_n 2, 1) := by decide +kernel
theorem dX9_draw_19 : decode cX9_draw 19 = .ok (.bipush 60, 2) := by decide +kernel
theorem dX9_draw_21 : decode cX9_draw 21 = .ok (.if_icmp .le 7, 3) := by decide +kernel
theorem dX9_draw_24 : decode cX9_draw 24 = .ok (.sipush (-1002), 3) := by decide +kernel
theorem dX9_draw_27 : decode cX9_draw 27 = .ok (.ireturn, 1) := by decide +kernel
theorem dX9_draw_28 : decode cX9_draw 28 = .ok (.iload_n 1, 1) := by decide +kernel
theorem dX9_draw_29 : decode cX9_draw 29 = .ok (.invokestatic 100, 3) := by decide +kernel
theorem dX9_draw_32 : decode cX9_draw 32 = .ok (.iload_n 2, 1) := by decide +kernel
theorem dX9_draw_33 : decode cX9_draw 33 = .ok (.invokestatic 100, 3) := by decide +kernel
theorem dX9_draw_36 : decode cX9_draw 36 = .ok (.invokestatic 105, 3) := by decide +kernel
theorem dX9_draw_39 : decode cX9_draw 39 = .ok (.istore_n 3, 1) := by decide +kernel
theorem dX9_draw_40 : decode cX9_draw 40 = .ok (.iload_n 3, 1) := by decide +kernel
theorem dX9_draw_41 : decode cX9_draw 41 = .ok (.ifCond .ne 7, 3) := by decide +kernel
theorem dX9_draw_44 : decode cX9_draw 44 = .ok (.sipush (-1002), 3) := by decide +kernel
theorem dX9_draw_47 : decode cX9_draw 47 = .ok (.ireturn, 1) := by decide +kernel
theorem dX9_draw_48 : decode cX9_draw 48 = .ok (.aload_n 0, 1) := by decide +kernel
theorem dX9_draw_49 : decode cX9_draw 49 = .ok (.getfield 12, 3) := by decide +kernel
theorem dX9_draw_52 : decode cX9_draw 52 = .ok (.invokevirtual 72, 3) := by decide +kernel
theorem dX9_draw_55 : decode cX9_draw 55 = .ok (.iload_n 3, 1) := by decide +kernel
theorem dX9_draw_56 : decode cX9_draw 56 = .ok (.iadd, 1) := by decide +kernel
theorem dX9_draw_57 : decode cX9_draw 57 = .ok (.bipush 60, 2) := by decide +kernel
theorem dX9_draw_59 : decode cX9_draw 59 = .ok (.if_icmp .le 7, 3) := by decide +kernel
theorem dX9_draw_62 : decode cX9_draw 62 = .ok (.sipush (-1004), 3) := by decide +kernel
theorem dX9_draw_65 : decode cX9_draw 65 = .ok (.ireturn, 1) := by decide +kernel
theorem dX9_draw_66 : decode cX9_draw 66 = .ok (.aload_n 0, 1) := by decide +kernel
theorem dX9_draw_67 : decode cX9_draw 67 = .ok (.getfield 12, 3) := by decide +kernel
theorem dX9_draw_70 : decode cX9_draw 70 = .ok (.iload_n 1, 1) := by decide +kernel
theorem dX9_draw_71 : decode cX9_draw 71 = .ok (.iload_n 2, 1) := by decide +kernel
theorem dX9_draw_72 : decode cX9_draw 72 = .ok (.iload_n 3, 1) := by decide +kernel
theorem dX9_draw_73 : decode cX9_draw 73 = .ok (.invokevirtual 109, 3) := by decide +kernel
theorem dX9_draw_76 : decode cX9_draw 76 = .ok (.aload_n 0, 1) := by decide +kernel
theorem dX9_draw_77 : decode cX9_draw 77 = .ok (.getfield 12, 3) := by decide +kernel
theorem dX9_draw_80 : decode cX9_draw 80 = .ok (.invokevirtual 72, 3) := by decide +kernel
theorem dX9_draw_83 : decode cX9_draw 83 = .ok (.ireturn, 1) := by decide +kernel
theorem dX9_word_0 : decode cX9_word 0 = .ok (.iload_n 1, 1) := by decide +kernel
theorem dX9_word_1 : decode cX9_word 1 = .ok (.iconst 1, 1) := by decide +kernel
theorem dX9_word_2 : decode cX9_word 2 = .ok (.if_icmp .lt 27, 3) := by decide +kernel
theorem dX9_word_5 : decode cX9_word 5 = .ok (.iload_n 1, 1) := by decide +kernel
theorem dX9_word_6 : decode cX9_word 6 = .ok (.bipush 60, 2) := by decide +kernel
theorem dX9_word_8 : decode cX9_word 8 = .ok (.if_icmp .gt 21, 3) := by decide +kernel
theorem dX9_word_11 : decode cX9_word 11 = .ok (.iload_n 2, 1) := by decide +kernel
theorem dX9_word_12 : decode cX9_word 12 = .ok (.ifCond .lt 17, 3) := by decide +kernel
theorem dX9_word_15 : decode cX9_word 15 = .ok (.iload_n 2, 1) := by decide +kernel
theorem dX9_word_16 : decode cX9_word 16 = .ok (.iload_n 1, 1) := by decide +kernel
theorem dX9_word_17 : decode cX9_word 17 = .ok (.if_icmp .gt 12, 3) := by decide +kernel
theorem dX9_word_20 : decode cX9_word 20 = .ok (.iload_n 3, 1) := by decide +kernel
theorem dX9_word_21 : decode cX9_word 21 = .ok (.ifCond .lt 8, 3) := by decide +kernel
theorem dX9_word_24 : decode cX9_word 24 = .ok (.iload_n 3, 1) := by decide +kernel
theorem dX9_word_25 : decode cX9_word 25 = .ok (.iload_n 1, 1) := by decide +kernel
theorem dX9_word_26 : decode cX9_word 26 = .ok (.if_icmp .lt 7, 3) := by decide +kernel
theorem dX9_word_29 : decode cX9_word 29 = .ok (.sipush (-1002), 3) := by decide +kernel
theorem dX9_word_32 : decode cX9_word 32 = .ok (.ireturn, 1) := by decide +kernel
theorem dX9_word_33 : decode cX9_word 33 = .ok (.iload_n 3, 1) := by decide +kernel
theorem dX9_word_34 : decode cX9_word 34 = .ok (.iconst 1, 1) := by decide +kernel
theorem dX9_word_35 : decode cX9_word 35 = .ok (.iadd, 1) := by decide +kernel
theorem dX9_word_36 : decode cX9_word 36 = .ok (.iload_n 2, 1) := by decide +kernel
theorem dX9_word_37 : decode cX9_word 37 = .ok (.imul, 1) := by decide +kernel
theorem dX9_word_38 : decode cX9_word 38 = .ok (.iload_n 1, 1) := by decide +kernel
theorem dX9_word_39 : decode cX9_word 39 = .ok (.idiv, 1) := by decide +kernel
theorem dX9_word_40 : decode cX9_word 40 = .ok (.iload_n 3, 1) := by decide +kernel
theorem dX9_word_41 : decode cX9_word 41 = .ok (.iload_n 2, 1) := by decide +kernel
theorem dX9_word_42 : decode cX9_word 42 = .ok (.imul, 1) := by decide +kernel
theorem dX9_word_43 : decode cX9_word 43 = .ok (.iload_n 1, 1) := by decide +kernel
theorem dX9_word_44 : decode cX9_word 44 = .ok (.idiv, 1) := by decide +kernel
theorem dX9_word_45 : decode cX9_word 45 = .ok (.if_icmp .le 7, 3) := by decide +kernel
theorem dX9_word_48 : decode cX9_word 48 = .ok (.iconst 1, 1) := by decide +kernel
theorem dX9_word_49 : decode cX9_word 49 = .ok (.goto 4, 3) := by decide +kernel
theorem dX9_word_52 : decode cX9_word 52 = .ok (.iconst 0, 1) := by decide +kernel
theorem dX9_word_53 : decode cX9_word 53 = .ok (.ireturn, 1) := by decide +kernel
set_option maxRecDepth 20000 in
theorem ggX9_straight_X9_refusalOfPiece : GoodIn wsX9_straight wsX9_refusalOfPiece := goodIn_r _ [7, 2, 8, 9, 10, 11, 12, 13, 55, 56, 57, 58, 59, 60, 61, 62, 63, 64, 65, 66, 67] rfl (by decide +kernel)
set_option maxRecDepth 20000 in
theorem gX9_straight_X9_refusalOfPiece : GoodIn wsX9_straight (wsV RX9 113 RX9 yX9_refusalOfPiece wsX9_refusalOfPiece) := goodIn_app (goodIn_of _ (by decide +kernel)) ggX9_straight_X9_refusalOfPiece
set_option maxRecDepth 20000 in
theorem ggX9_straight_X5_measure : GoodIn wsX9_straight wsX5_measure := goodIn_r _ [18, 19, 20, 21, 17, 22, 23, 24, 25, 26, 27, 28, 29, 30, 31, 11, 32, 33, 34, 35, 36, 37, 13, 38, 39, 40, 41, 42, 43, 44, 45, 46, 68, 69, 70, 71, 72, 73, 74, 64, 65, 66, 67] rfl (by decide +kernel)
set_option maxRecDepth 20000 in
theorem gX9_straight_X5_measure : GoodIn wsX9_straight (wsV RX9 116 RX5 yX5_measure wsX5_measure) := goodIn_app (goodIn_of _ (by decide +kernel)) ggX9_straight_X5_measure
set_option maxRecDepth 20000 in
theorem ggX9_straight_X5_isStraight : GoodIn wsX9_straight wsX5_isStraight := goodIn_r _ [50, 25, 28, 27, 26, 51, 52, 53, 17, 54, 24, 68, 69, 70, 71, 72, 73, 74] rfl (by decide +kernel)
set_option maxRecDepth 20000 in
theorem gX9_straight_X5_isStraight : GoodIn wsX9_straight (wsV RX9 120 RX5 yX5_isStraight wsX5_isStraight) := goodIn_app (goodIn_of _ (by decide +kernel)) ggX9_straight_X5_isStraight
theorem dX9_straight_0 : decode cX9_straight 0 = .ok (.aload_n 0, 1) := by decide +kernel
theorem dX9_straight_1 : decode cX9_straight 1 = .ok (.iload_n 1, 1) := by decide +kernel
theorem dX9_straight_2 : decode cX9_straight 2 = .ok (.iload_n 2, 1) := by decide +kernel
theorem dX9_straight_3 : decode cX9_straight 3 = .ok (.invokevirtual 113, 3) := by decide +kernel
theorem dX9_straight_6 : decode cX9_straight 6 = .ok (.istore_n 3, 1) := by decide +kernel
theorem dX9_straight_7 : decode cX9_straight 7 = .ok (.iload_n 3, 1) := by decide +kernel
theorem dX9_straight_8 : decode cX9_straight 8 = .ok (.ifCond .eq 5, 3) := by decide +kernel
theorem dX9_straight_11 : decode cX9_straight 11 = .ok (.iload_n 3, 1) := by decide +kernel
theorem dX9_straight_12 : decode cX9_straight 12 = .ok (.ireturn, 1) := by decide +kernel
theorem dX9_straight_13 : decode cX9_straight 13 = .ok (.aload_n 0, 1) := by decide +kernel
theorem dX9_straight_14 : decode cX9_straight 14 = .ok (.getfield 19, 3) := by decide +kernel
theorem dX9_straight_17 : decode cX9_straight 17 = .ok (.aload_n 0, 1) := by decide +kernel
theorem dX9_straight_18 : decode cX9_straight 18 = .ok (.getfield 12, 3) := by decide +kernel
theorem dX9_straight_21 : decode cX9_straight 21 = .ok (.iload_n 1, 1) := by decide +kernel
theorem dX9_straight_22 : decode cX9_straight 22 = .ok (.iload_n 2, 1) := by decide +kernel
theorem dX9_straight_23 : decode cX9_straight 23 = .ok (.invokevirtual 116, 3) := by decide +kernel
theorem dX9_straight_26 : decode cX9_straight 26 = .ok (.aload_n 0, 1) := by decide +kernel
theorem dX9_straight_27 : decode cX9_straight 27 = .ok (.getfield 19, 3) := by decide +kernel
theorem dX9_straight_30 : decode cX9_straight 30 = .ok (.invokevirtual 120, 3) := by decide +kernel
theorem dX9_straight_33 : decode cX9_straight 33 = .ok (.ifCond .eq 7, 3) := by decide +kernel
theorem dX9_straight_36 : decode cX9_straight 36 = .ok (.iconst 1, 1) := by decide +kernel
theorem dX9_straight_37 : decode cX9_straight 37 = .ok (.goto 4, 3) := by decide +kernel
theorem dX9_straight_40 : decode cX9_straight 40 = .ok (.iconst 0, 1) := by decide +kernel
theorem dX9_straight_41 : decode cX9_straight 41 = .ok (.ireturn, 1) := by decide +kernel
set_option maxRecDepth 20000 in
theorem ggX9_span_X9_refusalOfPiece : GoodIn wsX9_span wsX9_refusalOfPiece := goodIn_r _ [7, 2, 8, 9, 10, 11, 12, 13, 69, 70, 71, 72, 73, 74, 75, 76, 77, 78, 79, 80, 81] rfl (by decide +kernel)
set_option maxRecDepth 20000 in
theorem gX9_span_X9_refusalOfPiece : GoodIn wsX9_span (wsV RX9 113 RX9 yX9_refusalOfPiece wsX9_refusalOfPiece) := goodIn_app (goodIn_of _ (by decide +kernel)) ggX9_span_X9_refusalOfPiece
set_option maxRecDepth 20000 in
theorem ggX9_span_X5_measure : GoodIn wsX9_span wsX5_measure := goodIn_r _ [18, 19, 20, 21, 17, 22, 23, 24, 25, 26, 27, 28, 29, 30, 31, 11, 32, 33, 34, 35, 36, 37, 13, 38, 39, 40, 41, 42, 43, 44, 45, 46, 82, 83, 84, 85, 86, 87, 88, 78, 79, 80, 81] rfl (by decide +kernel)
set_option maxRecDepth 20000 in
theorem gX9_span_X5_measure : GoodIn wsX9_span (wsV RX9 116 RX5 yX5_measure wsX5_measure) := goodIn_app (goodIn_of _ (by decide +kernel)) ggX9_span_X5_measure
set_option maxRecDepth 20000 in
theorem ggX9_span_X5_waysFit : GoodIn wsX9_span wsX5_waysFit := goodIn_r _ [50, 24, 82, 83, 84, 85, 86, 87, 88] rfl (by decide +kernel)
set_option maxRecDepth 20000 in
theorem gX9_span_X5_waysFit : GoodIn wsX9_span (wsV RX9 124 RX5 yX5_waysFit wsX5_waysFit) := goodIn_app (goodIn_of _ (by decide +kernel)) ggX9_span_X5_waysFit
set_option maxRecDepth 20000 in
theorem ggX9_span_X5_highEnd : GoodIn wsX9_span wsX5_highEnd := goodIn_r _ [54, 27, 28, 55, 56, 17, 57, 58, 59, 60, 61, 62, 63, 64, 82, 83, 84, 85, 86, 87, 88] rfl (by decide +kernel)
set_option maxRecDepth 20000 in
theorem gX9_span_X5_highEnd : GoodIn wsX9_span (wsV RX9 127 RX5 yX5_highEnd wsX5_highEnd) := goodIn_app (goodIn_of _ (by decide +kernel)) ggX9_span_X5_highEnd
set_option maxRecDepth 20000 in
theorem ggX9_span_X5_lowEnd : GoodIn wsX9_span wsX5_lowEnd := goodIn_r _ [68, 25, 26, 55, 56, 17, 57, 58, 59, 60, 61, 62, 63, 64, 82, 83, 84, 85, 86, 87, 88] rfl (by decide +kernel)
set_option maxRecDepth 20000 in
theorem gX9_span_X5_lowEnd : GoodIn wsX9_span (wsV RX9 131 RX5 yX5_lowEnd wsX5_lowEnd) := goodIn_app (goodIn_of _ (by decide +kernel)) ggX9_span_X5_lowEnd
theorem dX9_span_0 : decode cX9_span 0 = .ok (.aload_n 0, 1) := by decide +kernel
theorem dX9_span_1 : decode cX9_span 1 = .ok (.iload_n 1, 1) := by decide +kernel
theorem dX9_span_2 : decode cX9_span 2 = .ok (.iload_n 2, 1) := by decide +kernel
theorem dX9_span_3 : decode cX9_span 3 = .ok (.invokevirtual 113, 3) := by decide +kernel
theorem dX9_span_6 : decode cX9_span 6 = .ok (.istore 5, 2) := by decide +kernel
theorem dX9_span_8 : decode cX9_span 8 = .ok (.iload 5, 2) := by decide +kernel
theorem dX9_span_10 : decode cX9_span 10 = .ok (.ifCond .eq 6, 3) := by decide +kernel
theorem dX9_span_13 : decode cX9_span 13 = .ok (.iload 5, 2) := by decide +kernel
theorem dX9_span_15 : decode cX9_span 15 = .ok (.ireturn, 1) := by decide +kernel
theorem dX9_span_16 : decode cX9_span 16 = .ok (.aload_n 0, 1) := by decide +kernel
theorem dX9_span_17 : decode cX9_span 17 = .ok (.getfield 19, 3) := by decide +kernel
theorem dX9_span_20 : decode cX9_span 20 = .ok (.aload_n 0, 1) := by decide +kernel
theorem dX9_span_21 : decode cX9_span 21 = .ok (.getfield 12, 3) := by decide +kernel
theorem dX9_span_24 : decode cX9_span 24 = .ok (.iload_n 1, 1) := by decide +kernel
theorem dX9_span_25 : decode cX9_span 25 = .ok (.iload_n 2, 1) := by decide +kernel
theorem dX9_span_26 : decode cX9_span 26 = .ok (.invokevirtual 116, 3) := by decide +kernel
theorem dX9_span_29 : decode cX9_span 29 = .ok (.aload_n 0, 1) := by decide +kernel
theorem dX9_span_30 : decode cX9_span 30 = .ok (.getfield 19, 3) := by decide +kernel
theorem dX9_span_33 : decode cX9_span 33 = .ok (.invokevirtual 124, 3) := by decide +kernel
theorem dX9_span_36 : decode cX9_span 36 = .ok (.ifCond .ne 7, 3) := by decide +kernel
theorem dX9_span_39 : decode cX9_span 39 = .ok (.sipush (-1003), 3) := by decide +kernel
theorem dX9_span_42 : decode cX9_span 42 = .ok (.ireturn, 1) := by decide +kernel
theorem dX9_span_43 : decode cX9_span 43 = .ok (.iload_n 3, 1) := by decide +kernel
theorem dX9_span_44 : decode cX9_span 44 = .ok (.ifCond .eq 15, 3) := by decide +kernel
theorem dX9_span_47 : decode cX9_span 47 = .ok (.aload_n 0, 1) := by decide +kernel
theorem dX9_span_48 : decode cX9_span 48 = .ok (.getfield 19, 3) := by decide +kernel
theorem dX9_span_51 : decode cX9_span 51 = .ok (.iload 4, 2) := by decide +kernel
theorem dX9_span_53 : decode cX9_span 53 = .ok (.invokevirtual 127, 3) := by decide +kernel
theorem dX9_span_56 : decode cX9_span 56 = .ok (.goto 12, 3) := by decide +kernel
theorem dX9_span_59 : decode cX9_span 59 = .ok (.aload_n 0, 1) := by decide +kernel
theorem dX9_span_60 : decode cX9_span 60 = .ok (.getfield 19, 3) := by decide +kernel
theorem dX9_span_63 : decode cX9_span 63 = .ok (.iload 4, 2) := by decide +kernel
theorem dX9_span_65 : decode cX9_span 65 = .ok (.invokevirtual 131, 3) := by decide +kernel
theorem dX9_span_68 : decode cX9_span 68 = .ok (.ireturn, 1) := by decide +kernel
set_option maxRecDepth 20000 in
theorem ggX9_plain_X9_refusalOfPiece : GoodIn wsX9_plain wsX9_refusalOfPiece := goodIn_r _ [7, 2, 8, 9, 10, 11, 12, 13, 59, 60, 61, 62, 63, 64, 65, 66, 67, 68, 69, 70, 71] rfl (by decide +kernel)
set_option maxRecDepth 20000 in
theorem gX9_plain_X9_refusalOfPiece : GoodIn wsX9_plain (wsV RX9 113 RX9 yX9_refusalOfPiece wsX9_refusalOfPiece) := goodIn_app (goodIn_of _ (by decide +kernel)) ggX9_plain_X9_refusalOfPiece
set_option maxRecDepth 20000 in
theorem ggX9_plain_X5_measure : GoodIn wsX9_plain wsX5_measure := goodIn_r _ [18, 19, 20, 21, 17, 22, 23, 24, 25, 26, 27, 28, 29, 30, 31, 11, 32, 33, 34, 35, 36, 37, 13, 38, 39, 40, 41, 42, 43, 44, 45, 46, 72, 73, 74, 75, 76, 77, 78, 68, 69, 70, 71] rfl (by decide +kernel)
set_option maxRecDepth 20000 in
theorem gX9_plain_X5_measure : GoodIn wsX9_plain (wsV RX9 116 RX5 yX5_measure wsX5_measure) := goodIn_app (goodIn_of _ (by decide +kernel)) ggX9_plain_X5_measure
set_option maxRecDepth 20000 in
theorem ggX9_plain_X5_isStraight : GoodIn wsX9_plain wsX5_isStraight := goodIn_r _ [50, 25, 28, 27, 26, 51, 52, 53, 17, 54, 24, 72, 73, 74, 75, 76, 77, 78] rfl (by decide +kernel)
set_option maxRecDepth 20000 in
theorem gX9_plain_X5_isStraight : GoodIn wsX9_plain (wsV RX9 120 RX5 yX5_isStraight wsX5_isStraight) := goodIn_app (goodIn_of _ (by decide +kernel)) ggX9_plain_X5_isStraight
set_option maxRecDepth 20000 in
theorem ggX9_plain_X5_plainSlope : GoodIn wsX9_plain wsX5_plainSlope := goodIn_r _ [58, 26, 25, 28, 27, 72, 73, 74, 75, 76, 77, 78] rfl (by decide +kernel)
set_option maxRecDepth 20000 in
theorem gX9_plain_X5_plainSlope : GoodIn wsX9_plain (wsV RX9 134 RX5 yX5_plainSlope wsX5_plainSlope) := goodIn_app (goodIn_of _ (by decide +kernel)) ggX9_plain_X5_plainSlope
theorem dX9_plain_0 : decode cX9_plain 0 = .ok (.aload_n 0, 1) := by decide +kernel
theorem dX9_plain_1 : decode cX9_plain 1 = .ok (.iload_n 1, 1) := by decide +kernel
theorem dX9_plain_2 : decode cX9_plain 2 = .ok (.iload_n 2, 1) := by decide +kernel
theorem dX9_plain_3 : decode cX9_plain 3 = .ok (.invokevirtual 113, 3) := by decide +kernel
theorem dX9_plain_6 : decode cX9_plain 6 = .ok (.istore 4, 2) := by decide +kernel
theorem dX9_plain_8 : decode cX9_plain 8 = .ok (.iload 4, 2) := by decide +kernel
theorem dX9_plain_10 : decode cX9_plain 10 = .ok (.ifCond .eq 6, 3) := by decide +kernel
theorem dX9_plain_13 : decode cX9_plain 13 = .ok (.iload 4, 2) := by decide +kernel
theorem dX9_plain_15 : decode cX9_plain 15 = .ok (.ireturn, 1) := by decide +kernel
theorem dX9_plain_16 : decode cX9_plain 16 = .ok (.aload_n 0, 1) := by decide +kernel
theorem dX9_plain_17 : decode cX9_plain 17 = .ok (.getfield 19, 3) := by decide +kernel
theorem dX9_plain_20 : decode cX9_plain 20 = .ok (.aload_n 0, 1) := by decide +kernel
theorem dX9_plain_21 : decode cX9_plain 21 = .ok (.getfield 12, 3) := by decide +kernel
theorem dX9_plain_24 : decode cX9_plain 24 = .ok (.iload_n 1, 1) := by decide +kernel
theorem dX9_plain_25 : decode cX9_plain 25 = .ok (.iload_n 2, 1) := by decide +kernel
theorem dX9_plain_26 : decode cX9_plain 26 = .ok (.invokevirtual 116, 3) := by decide +kernel
theorem dX9_plain_29 : decode cX9_plain 29 = .ok (.aload_n 0, 1) := by decide +kernel
theorem dX9_plain_30 : decode cX9_plain 30 = .ok (.getfield 19, 3) := by decide +kernel
theorem dX9_plain_33 : decode cX9_plain 33 = .ok (.invokevirtual 120, 3) := by decide +kernel
theorem dX9_plain_36 : decode cX9_plain 36 = .ok (.ifCond .ne 7, 3) := by decide +kernel
theorem dX9_plain_39 : decode cX9_plain 39 = .ok (.sipush (-1003), 3) := by decide +kernel
theorem dX9_plain_42 : decode cX9_plain 42 = .ok (.ireturn, 1) := by decide +kernel
theorem dX9_plain_43 : decode cX9_plain 43 = .ok (.aload_n 0, 1) := by decide +kernel
theorem dX9_plain_44 : decode cX9_plain 44 = .ok (.getfield 19, 3) := by decide +kernel
theorem dX9_plain_47 : decode cX9_plain 47 = .ok (.iload_n 3, 1) := by decide +kernel
theorem dX9_plain_48 : decode cX9_plain 48 = .ok (.invokevirtual 134, 3) := by decide +kernel
theorem dX9_plain_51 : decode cX9_plain 51 = .ok (.ireturn, 1) := by decide +kernel
set_option maxRecDepth 20000 in
theorem ggX9_longest_X6_steps : GoodIn wsX9_longest wsX6_steps := goodIn_r _ [7, 8, 60, 61, 62, 63] rfl (by decide +kernel)
set_option maxRecDepth 20000 in
theorem gX9_longest_X6_steps : GoodIn wsX9_longest (wsV RX9 72 RX6 yX6_steps wsX6_steps) := goodIn_app (goodIn_of _ (by decide +kernel)) ggX9_longest_X6_steps
set_option maxRecDepth 20000 in
theorem ggX9_longest_X5_farthest : GoodIn wsX9_longest wsX5_farthest := goodIn_r _ [13, 14, 15, 16, 12, 17, 18, 19, 20, 21, 22, 23, 24, 4, 5, 6, 7, 8, 25, 26, 27, 28, 29, 30, 31, 32, 33, 34, 35, 36, 37, 38, 39, 40, 41, 42, 43, 44, 45, 46, 47, 48, 49, 50, 64, 65, 66, 67, 68, 69, 70, 60, 61, 62, 63] rfl (by decide +kernel)
set_option maxRecDepth 20000 in
theorem gX9_longest_X5_farthest : GoodIn wsX9_longest (wsV RX9 137 RX5 yX5_farthest wsX5_farthest) := goodIn_app (goodIn_of _ (by decide +kernel)) ggX9_longest_X5_farthest
theorem dX9_longest_0 : decode cX9_longest 0 = .ok (.iconst 0, 1) := by decide +kernel
theorem dX9_longest_1 : decode cX9_longest 1 = .ok (.istore_n 2, 1) := by decide +kernel
theorem dX9_longest_2 : decode cX9_longest 2 = .ok (.iconst 0, 1) := by decide +kernel
theorem dX9_longest_3 : decode cX9_longest 3 = .ok (.istore_n 3, 1) := by decide +kernel
theorem dX9_longest_4 : decode cX9_longest 4 = .ok (.iconst 0, 1) := by decide +kernel
theorem dX9_longest_5 : decode cX9_longest 5 = .ok (.istore 4, 2) := by decide +kernel
theorem dX9_longest_7 : decode cX9_longest 7 = .ok (.iload 4, 2) := by decide +kernel
theorem dX9_longest_9 : decode cX9_longest 9 = .ok (.iload_n 2, 1) := by decide +kernel
theorem dX9_longest_10 : decode cX9_longest 10 = .ok (.iadd, 1) := by decide +kernel
theorem dX9_longest_11 : decode cX9_longest 11 = .ok (.aload_n 0, 1) := by decide +kernel
theorem dX9_longest_12 : decode cX9_longest 12 = .ok (.getfield 12, 3) := by decide +kernel
theorem dX9_longest_15 : decode cX9_longest 15 = .ok (.invokevirtual 72, 3) := by decide +kernel
theorem dX9_longest_18 : decode cX9_longest 18 = .ok (.if_icmp .ge 39, 3) := by decide +kernel
theorem dX9_longest_21 : decode cX9_longest 21 = .ok (.aload_n 0, 1) := by decide +kernel
theorem dX9_longest_22 : decode cX9_longest 22 = .ok (.getfield 19, 3) := by decide +kernel
theorem dX9_longest_25 : decode cX9_longest 25 = .ok (.aload_n 0, 1) := by decide +kernel
theorem dX9_longest_26 : decode cX9_longest 26 = .ok (.getfield 12, 3) := by decide +kernel
theorem dX9_longest_29 : decode cX9_longest 29 = .ok (.iload 4, 2) := by decide +kernel
theorem dX9_longest_31 : decode cX9_longest 31 = .ok (.invokevirtual 137, 3) := by decide +kernel
theorem dX9_longest_34 : decode cX9_longest 34 = .ok (.iload 4, 2) := by decide +kernel
theorem dX9_longest_36 : decode cX9_longest 36 = .ok (.isub, 1) := by decide +kernel
theorem dX9_longest_37 : decode cX9_longest 37 = .ok (.istore 5, 2) := by decide +kernel
theorem dX9_longest_39 : decode cX9_longest 39 = .ok (.iload 5, 2) := by decide +kernel
theorem dX9_longest_41 : decode cX9_longest 41 = .ok (.iload_n 2, 1) := by decide +kernel
theorem dX9_longest_42 : decode cX9_longest 42 = .ok (.if_icmp .le 9, 3) := by decide +kernel
theorem dX9_longest_45 : decode cX9_longest 45 = .ok (.iload 5, 2) := by decide +kernel
theorem dX9_longest_47 : decode cX9_longest 47 = .ok (.istore_n 2, 1) := by decide +kernel
theorem dX9_longest_48 : decode cX9_longest 48 = .ok (.iload 4, 2) := by decide +kernel
theorem dX9_longest_50 : decode cX9_longest 50 = .ok (.istore_n 3, 1) := by decide +kernel
theorem dX9_longest_51 : decode cX9_longest 51 = .ok (.iinc 4 1, 3) := by decide +kernel
theorem dX9_longest_54 : decode cX9_longest 54 = .ok (.goto (-47), 3) := by decide +kernel
theorem dX9_longest_57 : decode cX9_longest 57 = .ok (.iload_n 1, 1) := by decide +kernel
theorem dX9_longest_58 : decode cX9_longest 58 = .ok (.ifCond .eq 7, 3) := by decide +kernel
theorem dX9_longest_61 : decode cX9_longest 61 = .ok (.iload_n 3, 1) := by decide +kernel
theorem dX9_longest_62 : decode cX9_longest 62 = .ok (.goto 4, 3) := by decide +kernel
theorem dX9_longest_65 : decode cX9_longest 65 = .ok (.iload_n 2, 1) := by decide +kernel
theorem dX9_longest_66 : decode cX9_longest 66 = .ok (.ireturn, 1) := by decide +kernel
set_option maxRecDepth 20000 in
theorem ggX9_pieces_X6_steps : GoodIn wsX9_pieces wsX6_steps := goodIn_r _ [7, 8, 60, 61, 62, 63] rfl (by decide +kernel)
set_option maxRecDepth 20000 in
theorem gX9_pieces_X6_steps : GoodIn wsX9_pieces (wsV RX9 72 RX6 yX6_steps wsX6_steps) := goodIn_app (goodIn_of _ (by decide +kernel)) ggX9_pieces_X6_steps
set_option maxRecDepth 20000 in
theorem ggX9_pieces_X5_farthest : GoodIn wsX9_pieces wsX5_farthest := goodIn_r _ [13, 14, 15, 16, 12, 17, 18, 19, 20, 21, 22, 23, 24, 4, 5, 6, 7, 8, 25, 26, 27, 28, 29, 30, 31, 32, 33, 34, 35, 36, 37, 38, 39, 40, 41, 42, 43, 44, 45, 46, 47, 48, 49, 50, 64, 65, 66, 67, 68, 69, 70, 60, 61, 62, 63] rfl (by decide +kernel)
set_option maxRecDepth 20000 in
theorem gX9_pieces_X5_farthest : GoodIn wsX9_pieces (wsV RX9 137 RX5 yX5_farthest wsX5_farthest) := goodIn_app (goodIn_of _ (by decide +kernel)) ggX9_pieces_X5_farthest
theorem dX9_pieces_0 : decode cX9_pieces 0 = .ok (.iconst 0, 1) := by decide +kernel
theorem dX9_pieces_1 : decode cX9_pieces 1 = .ok (.istore_n 1, 1) := by decide +kernel
theorem dX9_pieces_2 : decode cX9_pieces 2 = .ok (.iconst 0, 1) := by decide +kernel
theorem dX9_pieces_3 : decode cX9_pieces 3 = .ok (.istore_n 2, 1) := by decide +kernel
theorem dX9_pieces_4 : decode cX9_pieces 4 = .ok (.iload_n 2, 1) := by decide +kernel
theorem dX9_pieces_5 : decode cX9_pieces 5 = .ok (.aload_n 0, 1) := by decide +kernel
theorem dX9_pieces_6 : decode cX9_pieces 6 = .ok (.getfield 12, 3) := by decide +kernel
theorem dX9_pieces_9 : decode cX9_pieces 9 = .ok (.invokevirtual 72, 3) := by decide +kernel
theorem dX9_pieces_12 : decode cX9_pieces 12 = .ok (.if_icmp .ge 28, 3) := by decide +kernel
theorem dX9_pieces_15 : decode cX9_pieces 15 = .ok (.iload_n 1, 1) := by decide +kernel
theorem dX9_pieces_16 : decode cX9_pieces 16 = .ok (.bipush 60, 2) := by decide +kernel
theorem dX9_pieces_18 : decode cX9_pieces 18 = .ok (.if_icmp .ge 22, 3) := by decide +kernel
theorem dX9_pieces_21 : decode cX9_pieces 21 = .ok (.aload_n 0, 1) := by decide +kernel
theorem dX9_pieces_22 : decode cX9_pieces 22 = .ok (.getfield 19, 3) := by decide +kernel
theorem dX9_pieces_25 : decode cX9_pieces 25 = .ok (.aload_n 0, 1) := by decide +kernel
theorem dX9_pieces_26 : decode cX9_pieces 26 = .ok (.getfield 12, 3) := by decide +kernel
theorem dX9_pieces_29 : decode cX9_pieces 29 = .ok (.iload_n 2, 1) := by decide +kernel
theorem dX9_pieces_30 : decode cX9_pieces 30 = .ok (.invokevirtual 137, 3) := by decide +kernel
theorem dX9_pieces_33 : decode cX9_pieces 33 = .ok (.istore_n 2, 1) := by decide +kernel
theorem dX9_pieces_34 : decode cX9_pieces 34 = .ok (.iinc 1 1, 3) := by decide +kernel
theorem dX9_pieces_37 : decode cX9_pieces 37 = .ok (.goto (-33), 3) := by decide +kernel
theorem dX9_pieces_40 : decode cX9_pieces 40 = .ok (.iload_n 1, 1) := by decide +kernel
theorem dX9_pieces_41 : decode cX9_pieces 41 = .ok (.ireturn, 1) := by decide +kernel
set_option maxRecDepth 20000 in
theorem ggX9_pieceEnd_X6_steps : GoodIn wsX9_pieceEnd wsX6_steps := goodIn_r _ [7, 8, 60, 61, 62, 63] rfl (by decide +kernel)
set_option maxRecDepth 20000 in
theorem gX9_pieceEnd_X6_steps : GoodIn wsX9_pieceEnd (wsV RX9 72 RX6 yX6_steps wsX6_steps) := goodIn_app (goodIn_of _ (by decide +kernel)) ggX9_pieceEnd_X6_steps
set_option maxRecDepth 20000 in
theorem ggX9_pieceEnd_X5_farthest : GoodIn wsX9_pieceEnd wsX5_farthest := goodIn_r _ [13, 14, 15, 16, 12, 17, 18, 19, 20, 21, 22, 23, 24, 4, 5, 6, 7, 8, 25, 26, 27, 28, 29, 30, 31, 32, 33, 34, 35, 36, 37, 38, 39, 40, 41, 42, 43, 44, 45, 46, 47, 48, 49, 50, 64, 65, 66, 67, 68, 69, 70, 60, 61, 62, 63] rfl (by decide +kernel)
set_option maxRecDepth 20000 in
theorem gX9_pieceEnd_X5_farthest : GoodIn wsX9_pieceEnd (wsV RX9 137 RX5 yX5_farthest wsX5_farthest) := goodIn_app (goodIn_of _ (by decide +kernel)) ggX9_pieceEnd_X5_farthest
theorem dX9_pieceEnd_0 : decode cX9_pieceEnd 0 = .ok (.iconst 0, 1) := by decide +kernel
theorem dX9_pieceEnd_1 : decode cX9_pieceEnd 1 = .ok (.istore_n 2, 1) := by decide +kernel
theorem dX9_pieceEnd_2 : decode cX9_pieceEnd 2 = .ok (.iconst 0, 1) := by decide +kernel
theorem dX9_pieceEnd_3 : decode cX9_pieceEnd 3 = .ok (.istore_n 3, 1) := by decide +kernel
theorem dX9_pieceEnd_4 : decode cX9_pieceEnd 4 = .ok (.iload_n 3, 1) := by decide +kernel
theorem dX9_pieceEnd_5 : decode cX9_pieceEnd 5 = .ok (.bipush 60, 2) := by decide +kernel
theorem dX9_pieceEnd_7 : decode cX9_pieceEnd 7 = .ok (.if_icmp .ge 40, 3) := by decide +kernel
theorem dX9_pieceEnd_10 : decode cX9_pieceEnd 10 = .ok (.iload_n 2, 1) := by decide +kernel
theorem dX9_pieceEnd_11 : decode cX9_pieceEnd 11 = .ok (.aload_n 0, 1) := by decide +kernel
theorem dX9_pieceEnd_12 : decode cX9_pieceEnd 12 = .ok (.getfield 12, 3) := by decide +kernel
theorem dX9_pieceEnd_15 : decode cX9_pieceEnd 15 = .ok (.invokevirtual 72, 3) := by decide +kernel
theorem dX9_pieceEnd_18 : decode cX9_pieceEnd 18 = .ok (.if_icmp .ge 29, 3) := by decide +kernel
theorem dX9_pieceEnd_21 : decode cX9_pieceEnd 21 = .ok (.aload_n 0, 1) := by decide +kernel
theorem dX9_pieceEnd_22 : decode cX9_pieceEnd 22 = .ok (.getfield 19, 3) := by decide +kernel
theorem dX9_pieceEnd_25 : decode cX9_pieceEnd 25 = .ok (.aload_n 0, 1) := by decide +kernel
theorem dX9_pieceEnd_26 : decode cX9_pieceEnd 26 = .ok (.getfield 12, 3) := by decide +kernel
theorem dX9_pieceEnd_29 : decode cX9_pieceEnd 29 = .ok (.iload_n 2, 1) := by decide +kernel
theorem dX9_pieceEnd_30 : decode cX9_pieceEnd 30 = .ok (.invokevirtual 137, 3) := by decide +kernel
theorem dX9_pieceEnd_33 : decode cX9_pieceEnd 33 = .ok (.istore_n 2, 1) := by decide +kernel
theorem dX9_pieceEnd_34 : decode cX9_pieceEnd 34 = .ok (.iload_n 3, 1) := by decide +kernel
theorem dX9_pieceEnd_35 : decode cX9_pieceEnd 35 = .ok (.iload_n 1, 1) := by decide +kernel
theorem dX9_pieceEnd_36 : decode cX9_pieceEnd 36 = .ok (.if_icmp .ne 5, 3) := by decide +kernel
theorem dX9_pieceEnd_39 : decode cX9_pieceEnd 39 = .ok (.iload_n 2, 1) := by decide +kernel
theorem dX9_pieceEnd_40 : decode cX9_pieceEnd 40 = .ok (.ireturn, 1) := by decide +kernel
theorem dX9_pieceEnd_41 : decode cX9_pieceEnd 41 = .ok (.iinc 3 1, 3) := by decide +kernel
theorem dX9_pieceEnd_44 : decode cX9_pieceEnd 44 = .ok (.goto (-40), 3) := by decide +kernel
theorem dX9_pieceEnd_47 : decode cX9_pieceEnd 47 = .ok (.sipush (-999), 3) := by decide +kernel
theorem dX9_pieceEnd_50 : decode cX9_pieceEnd 50 = .ok (.ireturn, 1) := by decide +kernel
set_option maxRecDepth 20000 in
theorem ggX9_refusalOfPiece_X6_hasPlace : GoodIn wsX9_refusalOfPiece wsX6_hasPlace := goodIn_r _ [6, 7, 17, 18, 19, 20] rfl (by decide +kernel)
set_option maxRecDepth 20000 in
theorem gX9_refusalOfPiece_X6_hasPlace : GoodIn wsX9_refusalOfPiece (wsV RX9 91 RX6 yX6_hasPlace wsX6_hasPlace) := goodIn_app (goodIn_of _ (by decide +kernel)) ggX9_refusalOfPiece_X6_hasPlace
theorem dX9_refusalOfPiece_0 : decode cX9_refusalOfPiece 0 = .ok (.aload_n 0, 1) := by decide +kernel
theorem dX9_refusalOfPiece_1 : decode cX9_refusalOfPiece 1 = .ok (.getfield 12, 3) := by decide +kernel
theorem dX9_refusalOfPiece_4 : decode cX9_refusalOfPiece 4 = .ok (.iload_n 1, 1) := by decide +kernel
theorem dX9_refusalOfPiece_5 : decode cX9_refusalOfPiece 5 = .ok (.invokevirtual 91, 3) := by decide +kernel
theorem dX9_refusalOfPiece_8 : decode cX9_refusalOfPiece 8 = .ok (.ifCond .eq 14, 3) := by decide +kernel
theorem dX9_refusalOfPiece_11 : decode cX9_refusalOfPiece 11 = .ok (.aload_n 0, 1) := by decide +kernel
theorem dX9_refusalOfPiece_12 : decode cX9_refusalOfPiece 12 = .ok (.getfield 12, 3) := by decide +kernel
theorem dX9_refusalOfPiece_15 : decode cX9_refusalOfPiece 15 = .ok (.iload_n 2, 1) := by decide +kernel
theorem dX9_refusalOfPiece_16 : decode cX9_refusalOfPiece 16 = .ok (.invokevirtual 91, 3) := by decide +kernel
theorem dX9_refusalOfPiece_19 : decode cX9_refusalOfPiece 19 = .ok (.ifCond .ne 7, 3) := by decide +kernel
theorem dX9_refusalOfPiece_22 : decode cX9_refusalOfPiece 22 = .ok (.sipush (-1001), 3) := by decide +kernel
theorem dX9_refusalOfPiece_25 : decode cX9_refusalOfPiece 25 = .ok (.ireturn, 1) := by decide +kernel
theorem dX9_refusalOfPiece_26 : decode cX9_refusalOfPiece 26 = .ok (.iload_n 2, 1) := by decide +kernel
theorem dX9_refusalOfPiece_27 : decode cX9_refusalOfPiece 27 = .ok (.iload_n 1, 1) := by decide +kernel
theorem dX9_refusalOfPiece_28 : decode cX9_refusalOfPiece 28 = .ok (.if_icmp .ge 9, 3) := by decide +kernel
theorem dX9_refusalOfPiece_31 : decode cX9_refusalOfPiece 31 = .ok (.sipush (-1002), 3) := by decide +kernel
theorem dX9_refusalOfPiece_34 : decode cX9_refusalOfPiece 34 = .ok (.goto 4, 3) := by decide +kernel
theorem dX9_refusalOfPiece_37 : decode cX9_refusalOfPiece 37 = .ok (.iconst 0, 1) := by decide +kernel
theorem dX9_refusalOfPiece_38 : decode cX9_refusalOfPiece 38 = .ok (.ireturn, 1) := by decide +kernel
set_option maxRecDepth 20000 in
theorem ggX9_ground_X2_lay : GoodIn wsX9_ground wsX2_lay := goodIn_r _ [6, 7, 8, 9, 23, 24, 25] rfl (by decide +kernel)
set_option maxRecDepth 20000 in
theorem gX9_ground_X2_lay : GoodIn wsX9_ground (wsV RX9 141 RX2 yX2_lay wsX2_lay) := goodIn_app (goodIn_of _ (by decide +kernel)) ggX9_ground_X2_lay
set_option maxRecDepth 20000 in
theorem ggX9_ground_X2_fields : GoodIn wsX9_ground wsX2_fields := goodIn_r _ [13, 7, 8, 23, 24, 25] rfl (by decide +kernel)
set_option maxRecDepth 20000 in
theorem gX9_ground_X2_fields : GoodIn wsX9_ground (wsV RX9 145 RX2 yX2_fields wsX2_fields) := goodIn_app (goodIn_of _ (by decide +kernel)) ggX9_ground_X2_fields
theorem dX9_ground_0 : decode cX9_ground 0 = .ok (.iload_n 1, 1) := by decide +kernel
theorem dX9_ground_1 : decode cX9_ground 1 = .ok (.iconst 1, 1) := by decide +kernel
theorem dX9_ground_2 : decode cX9_ground 2 = .ok (.if_icmp .lt 20, 3) := by decide +kernel
theorem dX9_ground_5 : decode cX9_ground 5 = .ok (.iload_n 1, 1) := by decide +kernel
theorem dX9_ground_6 : decode cX9_ground 6 = .ok (.bipush 12, 2) := by decide +kernel
theorem dX9_ground_8 : decode cX9_ground 8 = .ok (.if_icmp .gt 14, 3) := by decide +kernel
theorem dX9_ground_11 : decode cX9_ground 11 = .ok (.iload_n 2, 1) := by decide +kernel
theorem dX9_ground_12 : decode cX9_ground 12 = .ok (.iconst 1, 1) := by decide +kernel
theorem dX9_ground_13 : decode cX9_ground 13 = .ok (.if_icmp .lt 9, 3) := by decide +kernel
theorem dX9_ground_16 : decode cX9_ground 16 = .ok (.iload_n 2, 1) := by decide +kernel
theorem dX9_ground_17 : decode cX9_ground 17 = .ok (.bipush 12, 2) := by decide +kernel
theorem dX9_ground_19 : decode cX9_ground 19 = .ok (.if_icmp .le 7, 3) := by decide +kernel
theorem dX9_ground_22 : decode cX9_ground 22 = .ok (.sipush (-1002), 3) := by decide +kernel
theorem dX9_ground_25 : decode cX9_ground 25 = .ok (.ireturn, 1) := by decide +kernel
theorem dX9_ground_26 : decode cX9_ground 26 = .ok (.aload_n 0, 1) := by decide +kernel
theorem dX9_ground_27 : decode cX9_ground 27 = .ok (.getfield 26, 3) := by decide +kernel
theorem dX9_ground_30 : decode cX9_ground 30 = .ok (.iload_n 1, 1) := by decide +kernel
theorem dX9_ground_31 : decode cX9_ground 31 = .ok (.iload_n 2, 1) := by decide +kernel
theorem dX9_ground_32 : decode cX9_ground 32 = .ok (.invokevirtual 141, 3) := by decide +kernel
theorem dX9_ground_35 : decode cX9_ground 35 = .ok (.aload_n 0, 1) := by decide +kernel
theorem dX9_ground_36 : decode cX9_ground 36 = .ok (.getfield 26, 3) := by decide +kernel
theorem dX9_ground_39 : decode cX9_ground 39 = .ok (.invokevirtual 145, 3) := by decide +kernel
theorem dX9_ground_42 : decode cX9_ground 42 = .ok (.ireturn, 1) := by decide +kernel
set_option maxRecDepth 20000 in
theorem ggX9_set_X2_knows : GoodIn wsX9_set wsX2_knows := goodIn_r _ [6, 7, 8, 9, 5, 10, 11, 12, 32, 33, 34] rfl (by decide +kernel)
set_option maxRecDepth 20000 in
theorem gX9_set_X2_knows : GoodIn wsX9_set (wsV RX9 148 RX2 yX2_knows wsX2_knows) := goodIn_app (goodIn_of _ (by decide +kernel)) ggX9_set_X2_knows
set_option maxRecDepth 20000 in
theorem ggX9_set_X2_holds : GoodIn wsX9_set wsX2_holds := goodIn_r _ [16, 17, 18, 3, 4, 5, 6, 7, 8, 9, 10, 11, 12, 32, 33, 34] rfl (by decide +kernel)
set_option maxRecDepth 20000 in
theorem gX9_set_X2_holds : GoodIn wsX9_set (wsV RX9 151 RX2 yX2_holds wsX2_holds) := goodIn_app (goodIn_of _ (by decide +kernel)) ggX9_set_X2_holds
set_option maxRecDepth 20000 in
theorem ggX9_set_X2_put : GoodIn wsX9_set wsX2_put := goodIn_r _ [22, 17, 18, 3, 4, 5, 6, 7, 8, 9, 10, 11, 12, 32, 33, 34] rfl (by decide +kernel)
set_option maxRecDepth 20000 in
theorem gX9_set_X2_put : GoodIn wsX9_set (wsV RX9 154 RX2 yX2_put wsX2_put) := goodIn_app (goodIn_of _ (by decide +kernel)) ggX9_set_X2_put
theorem dX9_set_0 : decode cX9_set 0 = .ok (.aload_n 0, 1) := by decide +kernel
theorem dX9_set_1 : decode cX9_set 1 = .ok (.getfield 26, 3) := by decide +kernel
theorem dX9_set_4 : decode cX9_set 4 = .ok (.iload_n 1, 1) := by decide +kernel
theorem dX9_set_5 : decode cX9_set 5 = .ok (.invokevirtual 148, 3) := by decide +kernel
theorem dX9_set_8 : decode cX9_set 8 = .ok (.ifCond .ne 7, 3) := by decide +kernel
theorem dX9_set_11 : decode cX9_set 11 = .ok (.sipush (-1001), 3) := by decide +kernel
theorem dX9_set_14 : decode cX9_set 14 = .ok (.ireturn, 1) := by decide +kernel
theorem dX9_set_15 : decode cX9_set 15 = .ok (.aload_n 0, 1) := by decide +kernel
theorem dX9_set_16 : decode cX9_set 16 = .ok (.getfield 26, 3) := by decide +kernel
theorem dX9_set_19 : decode cX9_set 19 = .ok (.iload_n 1, 1) := by decide +kernel
theorem dX9_set_20 : decode cX9_set 20 = .ok (.invokevirtual 151, 3) := by decide +kernel
theorem dX9_set_23 : decode cX9_set 23 = .ok (.ifCond .eq 7, 3) := by decide +kernel
theorem dX9_set_26 : decode cX9_set 26 = .ok (.iconst 1, 1) := by decide +kernel
theorem dX9_set_27 : decode cX9_set 27 = .ok (.goto 4, 3) := by decide +kernel
theorem dX9_set_30 : decode cX9_set 30 = .ok (.iconst 0, 1) := by decide +kernel
theorem dX9_set_31 : decode cX9_set 31 = .ok (.istore_n 3, 1) := by decide +kernel
theorem dX9_set_32 : decode cX9_set 32 = .ok (.aload_n 0, 1) := by decide +kernel
theorem dX9_set_33 : decode cX9_set 33 = .ok (.getfield 26, 3) := by decide +kernel
theorem dX9_set_36 : decode cX9_set 36 = .ok (.iload_n 1, 1) := by decide +kernel
theorem dX9_set_37 : decode cX9_set 37 = .ok (.iload_n 2, 1) := by decide +kernel
theorem dX9_set_38 : decode cX9_set 38 = .ok (.invokevirtual 154, 3) := by decide +kernel
theorem dX9_set_41 : decode cX9_set 41 = .ok (.iload_n 3, 1) := by decide +kernel
theorem dX9_set_42 : decode cX9_set 42 = .ok (.ireturn, 1) := by decide +kernel
set_option maxRecDepth 20000 in
theorem ggX9_has_X2_knows : GoodIn wsX9_has wsX2_knows := goodIn_r _ [6, 7, 8, 9, 5, 10, 11, 12, 28, 29, 30] rfl (by decide +kernel)
set_option maxRecDepth 20000 in
theorem gX9_has_X2_knows : GoodIn wsX9_has (wsV RX9 148 RX2 yX2_knows wsX2_knows) := goodIn_app (goodIn_of _ (by decide +kernel)) ggX9_has_X2_knows
set_option maxRecDepth 20000 in
theorem ggX9_has_X2_holds : GoodIn wsX9_has wsX2_holds := goodIn_r _ [16, 17, 18, 3, 4, 5, 6, 7, 8, 9, 10, 11, 12, 28, 29, 30] rfl (by decide +kernel)
set_option maxRecDepth 20000 in
theorem gX9_has_X2_holds : GoodIn wsX9_has (wsV RX9 151 RX2 yX2_holds wsX2_holds) := goodIn_app (goodIn_of _ (by decide +kernel)) ggX9_has_X2_holds
theorem dX9_has_0 : decode cX9_has 0 = .ok (.aload_n 0, 1) := by decide +kernel
theorem dX9_has_1 : decode cX9_has 1 = .ok (.getfield 26, 3) := by decide +kernel
theorem dX9_has_4 : decode cX9_has 4 = .ok (.iload_n 1, 1) := by decide +kernel
theorem dX9_has_5 : decode cX9_has 5 = .ok (.invokevirtual 148, 3) := by decide +kernel
theorem dX9_has_8 : decode cX9_has 8 = .ok (.ifCond .ne 7, 3) := by decide +kernel
theorem dX9_has_11 : decode cX9_has 11 = .ok (.sipush (-1001), 3) := by decide +kernel
theorem dX9_has_14 : decode cX9_has 14 = .ok (.ireturn, 1) := by decide +kernel
theorem dX9_has_15 : decode cX9_has 15 = .ok (.aload_n 0, 1) := by decide +kernel
theorem dX9_has_16 : decode cX9_has 16 = .ok (.getfield 26, 3) := by decide +kernel
theorem dX9_has_19 : decode cX9_has 19 = .ok (.iload_n 1, 1) := by decide +kernel
theorem dX9_has_20 : decode cX9_has 20 = .ok (.invokevirtual 151, 3) := by decide +kernel
theorem dX9_has_23 : decode cX9_has 23 = .ok (.ifCond .eq 7, 3) := by decide +kernel
theorem dX9_has_26 : decode cX9_has 26 = .ok (.iconst 1, 1) := by decide +kernel
theorem dX9_has_27 : decode cX9_has 27 = .ok (.goto 4, 3) := by decide +kernel
theorem dX9_has_30 : decode cX9_has 30 = .ok (.iconst 0, 1) := by decide +kernel
theorem dX9_has_31 : decode cX9_has 31 = .ok (.ireturn, 1) := by decide +kernel
set_option maxRecDepth 20000 in
theorem ggX9_fill_X2_knows : GoodIn wsX9_fill wsX2_knows := goodIn_r _ [9, 10, 11, 12, 8, 13, 14, 15, 132, 133, 134] rfl (by decide +kernel)
set_option maxRecDepth 20000 in
theorem gX9_fill_X2_knows : GoodIn wsX9_fill (wsV RX9 148 RX2 yX2_knows wsX2_knows) := goodIn_app (goodIn_of _ (by decide +kernel)) ggX9_fill_X2_knows
set_option maxRecDepth 20000 in
theorem ggX9_fill_X8_follow : GoodIn wsX9_fill wsX8_follow := goodIn_r _ [20, 21, 22, 23, 24, 8, 25, 14, 26, 27, 28, 29, 30, 31, 32, 33, 34, 35, 36, 37, 38, 39, 40, 41, 42, 43, 44, 45, 46, 47, 48, 49, 50, 51, 52, 53, 15, 54, 6, 7, 9, 10, 11, 12, 13, 135, 132, 133, 134, 136, 137, 138, 139] rfl (by decide +kernel)
set_option maxRecDepth 20000 in
theorem gX9_fill_X8_follow : GoodIn wsX9_fill (wsV RX9 158 RX8 yX8_follow wsX8_follow) := goodIn_app (goodIn_of _ (by decide +kernel)) ggX9_fill_X8_follow
set_option maxRecDepth 20000 in
theorem ggX9_fill_X6_comesBack : GoodIn wsX9_fill wsX6_comesBack := goodIn_r _ [58, 35, 59, 37, 38, 33, 39, 40, 41, 42, 43, 44, 60, 46, 47, 48, 49, 136, 137, 138, 139] rfl (by decide +kernel)
set_option maxRecDepth 20000 in
theorem gX9_fill_X6_comesBack : GoodIn wsX9_fill (wsV RX9 162 RX6 yX6_comesBack wsX6_comesBack) := goodIn_app (goodIn_of _ (by decide +kernel)) ggX9_fill_X6_comesBack
set_option maxRecDepth 20000 in
theorem ggX9_fill_X8_shutIn : GoodIn wsX9_fill wsX8_shutIn := goodIn_r _ [64, 21, 65, 66, 67, 68, 69, 70, 71, 72, 73, 74, 75, 11, 12, 8, 13, 14, 15, 76, 77, 78, 79, 80, 81, 23, 24, 25, 82, 27, 28, 29, 83, 51, 52, 53, 84, 6, 7, 9, 10, 85, 86, 87, 88, 89, 90, 91, 92, 93, 94, 95, 96, 97, 98, 99, 100, 101, 102, 103, 104, 135, 140, 141, 142, 132, 133, 134] rfl (by decide +kernel)
set_option maxRecDepth 20000 in
theorem gX9_fill_X8_shutIn : GoodIn wsX9_fill (wsV RX9 165 RX8 yX8_shutIn wsX8_shutIn) := goodIn_app (goodIn_of _ (by decide +kernel)) ggX9_fill_X8_shutIn
set_option maxRecDepth 20000 in
theorem ggX9_fill_X8_pourInto : GoodIn wsX9_fill wsX8_pourInto := goodIn_r _ [108, 21, 96, 11, 12, 8, 13, 14, 15, 109, 110, 111, 112, 113, 114, 6, 7, 9, 10, 135, 132, 133, 134] rfl (by decide +kernel)
set_option maxRecDepth 20000 in
theorem gX9_fill_X8_pourInto : GoodIn wsX9_fill (wsV RX9 169 RX8 yX8_pourInto wsX8_pourInto) := goodIn_app (goodIn_of _ (by decide +kernel)) ggX9_fill_X8_pourInto
set_option maxRecDepth 20000 in
theorem ggX9_fill_X2_heapSize : GoodIn wsX9_fill wsX2_heapSize := goodIn_r _ [118, 10, 11, 12, 8, 13, 14, 15, 119, 120, 121, 122, 113, 114, 6, 7, 9, 132, 133, 134] rfl (by decide +kernel)
set_option maxRecDepth 20000 in
theorem gX9_fill_X2_heapSize : GoodIn wsX9_fill (wsV RX9 173 RX2 yX2_heapSize wsX2_heapSize) := goodIn_app (goodIn_of _ (by decide +kernel)) ggX9_fill_X2_heapSize
theorem dX9_fill_0 : decode cX9_fill 0 = .ok (.aload_n 0, 1) := by decide +kernel
theorem dX9_fill_1 : decode cX9_fill 1 = .ok (.getfield 26, 3) := by decide +kernel
theorem dX9_fill_4 : decode cX9_fill 4 = .ok (.iload_n 1, 1) := by decide +kernel
theorem dX9_fill_5 : decode cX9_fill 5 = .ok (.invokevirtual 148, 3) := by decide +kernel
theorem dX9_fill_8 : decode cX9_fill 8 = .ok (.ifCond .ne 7, 3) := by decide +kernel
theorem dX9_fill_11 : decode cX9_fill 11 = .ok (.sipush (-1001), 3) := by decide +kernel
theorem dX9_fill_14 : decode cX9_fill 14 = .ok (.ireturn, 1) := by decide +kernel
theorem dX9_fill_15 : decode cX9_fill 15 = .ok (.aload_n 0, 1) := by decide +kernel
theorem dX9_fill_16 : decode cX9_fill 16 = .ok (.getfield 40, 3) := by decide +kernel
theorem dX9_fill_19 : decode cX9_fill 19 = .ok (.aload_n 0, 1) := by decide +kernel
theorem dX9_fill_20 : decode cX9_fill 20 = .ok (.getfield 12, 3) := by decide +kernel
theorem dX9_fill_23 : decode cX9_fill 23 = .ok (.aload_n 0, 1) := by decide +kernel
theorem dX9_fill_24 : decode cX9_fill 24 = .ok (.getfield 26, 3) := by decide +kernel
theorem dX9_fill_27 : decode cX9_fill 27 = .ok (.iload_n 1, 1) := by decide +kernel
theorem dX9_fill_28 : decode cX9_fill 28 = .ok (.invokevirtual 158, 3) := by decide +kernel
theorem dX9_fill_31 : decode cX9_fill 31 = .ok (.ifCond .ne 7, 3) := by decide +kernel
theorem dX9_fill_34 : decode cX9_fill 34 = .ok (.sipush (-1002), 3) := by decide +kernel
theorem dX9_fill_37 : decode cX9_fill 37 = .ok (.ireturn, 1) := by decide +kernel
theorem dX9_fill_38 : decode cX9_fill 38 = .ok (.iload_n 2, 1) := by decide +kernel
theorem dX9_fill_39 : decode cX9_fill 39 = .ok (.ifCond .eq 17, 3) := by decide +kernel
theorem dX9_fill_42 : decode cX9_fill 42 = .ok (.aload_n 0, 1) := by decide +kernel
theorem dX9_fill_43 : decode cX9_fill 43 = .ok (.getfield 12, 3) := by decide +kernel
theorem dX9_fill_46 : decode cX9_fill 46 = .ok (.invokevirtual 162, 3) := by decide +kernel
theorem dX9_fill_49 : decode cX9_fill 49 = .ok (.ifCond .ne 7, 3) := by decide +kernel
theorem dX9_fill_52 : decode cX9_fill 52 = .ok (.sipush (-1003), 3) := by decide +kernel
theorem dX9_fill_55 : decode cX9_fill 55 = .ok (.ireturn, 1) := by decide +kernel
theorem dX9_fill_56 : decode cX9_fill 56 = .ok (.iload_n 2, 1) := by decide +kernel
theorem dX9_fill_57 : decode cX9_fill 57 = .ok (.ifCond .eq 18, 3) := by decide +kernel
theorem dX9_fill_60 : decode cX9_fill 60 = .ok (.aload_n 0, 1) := by decide +kernel
theorem dX9_fill_61 : decode cX9_fill 61 = .ok (.getfield 40, 3) := by decide +kernel
theorem dX9_fill_64 : decode cX9_fill 64 = .ok (.aload_n 0, 1) := by decide +kernel
theorem dX9_fill_65 : decode cX9_fill 65 = .ok (.getfield 26, 3) := by decide +kernel
theorem dX9_fill_68 : decode cX9_fill 68 = .ok (.aload_n 0, 1) := by decide +kernel
theorem dX9_fill_69 : decode cX9_fill 69 = .ok (.getfield 33, 3) := by decide +kernel
theorem dX9_fill_72 : decode cX9_fill 72 = .ok (.invokevirtual 165, 3) := by decide +kernel
theorem dX9_fill_75 : decode cX9_fill 75 = .ok (.aload_n 0, 1) := by decide +kernel
theorem dX9_fill_76 : decode cX9_fill 76 = .ok (.getfield 40, 3) := by decide +kernel
theorem dX9_fill_79 : decode cX9_fill 79 = .ok (.aload_n 0, 1) := by decide +kernel
theorem dX9_fill_80 : decode cX9_fill 80 = .ok (.getfield 26, 3) := by decide +kernel
theorem dX9_fill_83 : decode cX9_fill 83 = .ok (.invokevirtual 169, 3) := by decide +kernel
theorem dX9_fill_86 : decode cX9_fill 86 = .ok (.aload_n 0, 1) := by decide +kernel
theorem dX9_fill_87 : decode cX9_fill 87 = .ok (.getfield 26, 3) := by decide +kernel
theorem dX9_fill_90 : decode cX9_fill 90 = .ok (.invokevirtual 173, 3) := by decide +kernel
theorem dX9_fill_93 : decode cX9_fill 93 = .ok (.ireturn, 1) := by decide +kernel
set_option maxRecDepth 20000 in
theorem ggX9_heap_X2_heapSize : GoodIn wsX9_heap wsX2_heapSize := goodIn_r _ [8, 9, 10, 11, 7, 12, 13, 14, 15, 16, 17, 18, 19, 20, 21, 22, 23, 153, 154, 155] rfl (by decide +kernel)
set_option maxRecDepth 20000 in
theorem gX9_heap_X2_heapSize : GoodIn wsX9_heap (wsV RX9 173 RX2 yX2_heapSize wsX2_heapSize) := goodIn_app (goodIn_of _ (by decide +kernel)) ggX9_heap_X2_heapSize
set_option maxRecDepth 20000 in
theorem ggX9_heap_X2_members : GoodIn wsX9_heap wsX2_members := goodIn_r _ [27, 19, 153, 154, 155] rfl (by decide +kernel)
set_option maxRecDepth 20000 in
theorem gX9_heap_X2_members : GoodIn wsX9_heap (wsV RX9 176 RX2 yX2_members wsX2_members) := goodIn_app (goodIn_of _ (by decide +kernel)) ggX9_heap_X2_members
set_option maxRecDepth 20000 in
theorem ggX9_heap_X4_split : GoodIn wsX9_heap wsX4_split := goodIn_r _ [32, 33, 34, 35, 36, 37, 38, 10, 11, 7, 12, 13, 14, 39, 40, 41, 31, 42, 43, 44, 45, 46, 47, 48, 49, 50, 51, 52, 53, 54, 55, 56, 21, 22, 23, 9, 156, 157, 158, 153, 154, 155] rfl (by decide +kernel)
set_option maxRecDepth 20000 in
theorem gX9_heap_X4_split : GoodIn wsX9_heap (wsV RX9 180 RX4 yX4_split wsX4_split) := goodIn_app (goodIn_of _ (by decide +kernel)) ggX9_heap_X4_split
set_option maxRecDepth 20000 in
theorem ggX9_heap_X4_shutParts : GoodIn wsX9_heap wsX4_shutParts := goodIn_r _ [60, 37, 61, 62, 63, 64, 31, 65, 38, 10, 11, 7, 12, 13, 14, 66, 67, 68, 69, 70, 45, 46, 47, 71, 49, 50, 51, 156, 157, 158, 153, 154, 155] rfl (by decide +kernel)
set_option maxRecDepth 20000 in
theorem gX9_heap_X4_shutParts : GoodIn wsX9_heap (wsV RX9 184 RX4 yX4_shutParts wsX4_shutParts) := goodIn_app (goodIn_of _ (by decide +kernel)) ggX9_heap_X4_shutParts
set_option maxRecDepth 20000 in
theorem ggX9_heap_X2_rims : GoodIn wsX9_heap wsX2_rims := goodIn_r _ [75, 9, 10, 11, 7, 12, 13, 14, 15, 16, 17, 18, 19, 20, 21, 22, 23, 76, 77, 78, 79, 70, 45, 46, 47, 71, 49, 50, 51, 80, 81, 82, 83, 84, 53, 54, 55, 85, 86, 87, 88, 89, 90, 91, 153, 154, 155] rfl (by decide +kernel)
set_option maxRecDepth 20000 in
theorem gX9_heap_X2_rims : GoodIn wsX9_heap (wsV RX9 188 RX2 yX2_rims wsX2_rims) := goodIn_app (goodIn_of _ (by decide +kernel)) ggX9_heap_X2_rims
set_option maxRecDepth 20000 in
theorem ggX9_heap_X3_wrap : GoodIn wsX9_heap wsX3_wrap := goodIn_r _ [96, 97, 98, 99, 35, 100, 101, 102, 103, 104, 105, 7, 106, 13, 107, 108, 109, 95, 110, 111, 112, 113, 114, 14, 115, 81, 82, 83, 84, 53, 54, 55, 15, 16, 17, 18, 19, 20, 21, 22, 23, 9, 10, 11, 12, 116, 117, 118, 119, 120, 121, 122, 123, 124, 125, 126, 127, 159, 160, 161, 153, 154, 155] rfl (by decide +kernel)
set_option maxRecDepth 20000 in
theorem gX9_heap_X3_wrap : GoodIn wsX9_heap (wsV RX9 191 RX3 yX3_wrap wsX3_wrap) := goodIn_app (goodIn_of _ (by decide +kernel)) ggX9_heap_X3_wrap
set_option maxRecDepth 20000 in
theorem ggX9_heap_X3_lacks : GoodIn wsX9_heap wsX3_lacks := goodIn_r _ [131, 132, 10, 11, 7, 12, 13, 14, 133, 16, 17, 18, 19, 20, 21, 22, 23, 9, 134, 45, 46, 47, 135, 49, 50, 51, 136, 137, 138, 95, 139, 97, 120, 121, 122, 123, 101, 102, 140, 141, 142, 143, 153, 154, 155, 159, 160, 161] rfl (by decide +kernel)
set_option maxRecDepth 20000 in
theorem gX9_heap_X3_lacks : GoodIn wsX9_heap (wsV RX9 194 RX3 yX3_lacks wsX3_lacks) := goodIn_app (goodIn_of _ (by decide +kernel)) ggX9_heap_X3_lacks
theorem dX9_heap_0 : decode cX9_heap 0 = .ok (.iload_n 1, 1) := by decide +kernel
theorem dX9_heap_1 : decode cX9_heap 1 = .ok (.tableswitch 128 0 4 #[35, 43, 64, 97, 105], 35) := by decide +kernel
theorem dX9_heap_36 : decode cX9_heap 36 = .ok (.aload_n 0, 1) := by decide +kernel
theorem dX9_heap_37 : decode cX9_heap 37 = .ok (.getfield 26, 3) := by decide +kernel
theorem dX9_heap_40 : decode cX9_heap 40 = .ok (.invokevirtual 173, 3) := by decide +kernel
theorem dX9_heap_43 : decode cX9_heap 43 = .ok (.ireturn, 1) := by decide +kernel
theorem dX9_heap_44 : decode cX9_heap 44 = .ok (.aload_n 0, 1) := by decide +kernel
theorem dX9_heap_45 : decode cX9_heap 45 = .ok (.getfield 33, 3) := by decide +kernel
theorem dX9_heap_48 : decode cX9_heap 48 = .ok (.aload_n 0, 1) := by decide +kernel
theorem dX9_heap_49 : decode cX9_heap 49 = .ok (.getfield 26, 3) := by decide +kernel
theorem dX9_heap_52 : decode cX9_heap 52 = .ok (.aload_n 0, 1) := by decide +kernel
theorem dX9_heap_53 : decode cX9_heap 53 = .ok (.getfield 26, 3) := by decide +kernel
theorem dX9_heap_56 : decode cX9_heap 56 = .ok (.invokevirtual 176, 3) := by decide +kernel
theorem dX9_heap_59 : decode cX9_heap 59 = .ok (.iconst 1, 1) := by decide +kernel
theorem dX9_heap_60 : decode cX9_heap 60 = .ok (.iconst 1, 1) := by decide +kernel
theorem dX9_heap_61 : decode cX9_heap 61 = .ok (.invokevirtual 180, 3) := by decide +kernel
theorem dX9_heap_64 : decode cX9_heap 64 = .ok (.ireturn, 1) := by decide +kernel
theorem dX9_heap_65 : decode cX9_heap 65 = .ok (.aload_n 0, 1) := by decide +kernel
theorem dX9_heap_66 : decode cX9_heap 66 = .ok (.getfield 33, 3) := by decide +kernel
theorem dX9_heap_69 : decode cX9_heap 69 = .ok (.aload_n 0, 1) := by decide +kernel
theorem dX9_heap_70 : decode cX9_heap 70 = .ok (.getfield 26, 3) := by decide +kernel
theorem dX9_heap_73 : decode cX9_heap 73 = .ok (.aload_n 0, 1) := by decide +kernel
theorem dX9_heap_74 : decode cX9_heap 74 = .ok (.getfield 26, 3) := by decide +kernel
theorem dX9_heap_77 : decode cX9_heap 77 = .ok (.invokevirtual 176, 3) := by decide +kernel
theorem dX9_heap_80 : decode cX9_heap 80 = .ok (.iconst 0, 1) := by decide +kernel
theorem dX9_heap_81 : decode cX9_heap 81 = .ok (.iconst 0, 1) := by decide +kernel
theorem dX9_heap_82 : decode cX9_heap 82 = .ok (.invokevirtual 180, 3) := by decide +kernel
theorem dX9_heap_85 : decode cX9_heap 85 = .ok (.pop, 1) := by decide +kernel
theorem dX9_heap_86 : decode cX9_heap 86 = .ok (.aload_n 0, 1) := by decide +kernel
theorem dX9_heap_87 : decode cX9_heap 87 = .ok (.getfield 33, 3) := by decide +kernel
theorem dX9_heap_90 : decode cX9_heap 90 = .ok (.aload_n 0, 1) := by decide +kernel
theorem dX9_heap_91 : decode cX9_heap 91 = .ok (.getfield 26, 3) := by decide +kernel
theorem dX9_heap_94 : decode cX9_heap 94 = .ok (.invokevirtual 184, 3) := by decide +kernel
theorem dX9_heap_97 : decode cX9_heap 97 = .ok (.ireturn, 1) := by decide +kernel
theorem dX9_heap_98 : decode cX9_heap 98 = .ok (.aload_n 0, 1) := by decide +kernel
theorem dX9_heap_99 : decode cX9_heap 99 = .ok (.getfield 26, 3) := by decide +kernel
theorem dX9_heap_102 : decode cX9_heap 102 = .ok (.invokevirtual 188, 3) := by decide +kernel
theorem dX9_heap_105 : decode cX9_heap 105 = .ok (.ireturn, 1) := by decide +kernel
theorem dX9_heap_106 : decode cX9_heap 106 = .ok (.aload_n 0, 1) := by decide +kernel
theorem dX9_heap_107 : decode cX9_heap 107 = .ok (.getfield 47, 3) := by decide +kernel
theorem dX9_heap_110 : decode cX9_heap 110 = .ok (.aload_n 0, 1) := by decide +kernel
theorem dX9_heap_111 : decode cX9_heap 111 = .ok (.getfield 26, 3) := by decide +kernel
theorem dX9_heap_114 : decode cX9_heap 114 = .ok (.invokevirtual 191, 3) := by decide +kernel
theorem dX9_heap_117 : decode cX9_heap 117 = .ok (.aload_n 0, 1) := by decide +kernel
theorem dX9_heap_118 : decode cX9_heap 118 = .ok (.getfield 47, 3) := by decide +kernel
theorem dX9_heap_121 : decode cX9_heap 121 = .ok (.aload_n 0, 1) := by decide +kernel
theorem dX9_heap_122 : decode cX9_heap 122 = .ok (.getfield 26, 3) := by decide +kernel
theorem dX9_heap_125 : decode cX9_heap 125 = .ok (.invokevirtual 194, 3) := by decide +kernel
theorem dX9_heap_128 : decode cX9_heap 128 = .ok (.ireturn, 1) := by decide +kernel
theorem dX9_heap_129 : decode cX9_heap 129 = .ok (.sipush (-1002), 3) := by decide +kernel
theorem dX9_heap_132 : decode cX9_heap 132 = .ok (.ireturn, 1) := by decide +kernel
set_option maxRecDepth 20000 in
theorem ggX9_is_X3_wrap : GoodIn wsX9_is wsX3_wrap := goodIn_r _ [8, 9, 10, 11, 12, 13, 14, 15, 16, 17, 18, 19, 20, 21, 22, 23, 24, 7, 25, 26, 27, 28, 29, 30, 31, 32, 33, 34, 35, 36, 37, 38, 39, 40, 41, 42, 43, 44, 45, 46, 47, 48, 49, 50, 51, 52, 53, 54, 55, 56, 57, 58, 59, 60, 61, 62, 63, 129, 130, 131, 132, 133, 134] rfl (by decide +kernel)
set_option maxRecDepth 20000 in
theorem gX9_is_X3_wrap : GoodIn wsX9_is (wsV RX9 191 RX3 yX3_wrap wsX3_wrap) := goodIn_app (goodIn_of _ (by decide +kernel)) ggX9_is_X3_wrap
set_option maxRecDepth 20000 in
theorem ggX9_is_X3_lacks : GoodIn wsX9_is wsX3_lacks := goodIn_r _ [67, 68, 49, 50, 19, 51, 21, 30, 69, 40, 41, 42, 43, 44, 45, 46, 47, 48, 70, 71, 72, 73, 74, 75, 76, 77, 78, 79, 80, 7, 81, 9, 56, 57, 58, 59, 14, 15, 82, 83, 84, 85, 132, 133, 134, 129, 130, 131] rfl (by decide +kernel)
set_option maxRecDepth 20000 in
theorem gX9_is_X3_lacks : GoodIn wsX9_is (wsV RX9 194 RX3 yX3_lacks wsX3_lacks) := goodIn_app (goodIn_of _ (by decide +kernel)) ggX9_is_X3_lacks
set_option maxRecDepth 20000 in
theorem ggX9_is_X2_hasStairs : GoodIn wsX9_is wsX2_hasStairs := goodIn_r _ [89, 21, 30, 90, 91, 92, 19, 93, 94, 32, 33, 34, 35, 36, 37, 38, 39, 40, 41, 42, 43, 44, 45, 46, 47, 48, 49, 50, 51, 132, 133, 134] rfl (by decide +kernel)
set_option maxRecDepth 20000 in
theorem gX9_is_X2_hasStairs : GoodIn wsX9_is (wsV RX9 197 RX2 yX2_hasStairs wsX2_hasStairs) := goodIn_app (goodIn_of _ (by decide +kernel)) ggX9_is_X2_hasStairs
set_option maxRecDepth 20000 in
theorem ggX9_is_X1_find : GoodIn wsX9_is wsX1_find := goodIn_r _ [99, 100, 101, 102, 103, 104, 105, 19, 106, 48, 49, 50, 51, 21, 30, 39, 40, 41, 42, 43, 44, 45, 46, 47, 107, 27, 28, 29, 108, 17, 18, 20, 109, 110, 98, 111, 112, 11, 12, 13, 113, 114, 115, 116, 117, 71, 72, 73, 118, 75, 76, 77, 119, 135, 136, 137, 132, 133, 134] rfl (by decide +kernel)
set_option maxRecDepth 20000 in
theorem gX9_is_X1_find : GoodIn wsX9_is (wsV RX9 200 RX1 yX1_find wsX1_find) := goodIn_app (goodIn_of _ (by decide +kernel)) ggX9_is_X1_find
theorem dX9_is_0 : decode cX9_is 0 = .ok (.iload_n 1, 1) := by decide +kernel
theorem dX9_is_1 : decode cX9_is 1 = .ok (.tableswitch 87 0 2 #[27, 61, 72], 27) := by decide +kernel
theorem dX9_is_28 : decode cX9_is 28 = .ok (.aload_n 0, 1) := by decide +kernel
theorem dX9_is_29 : decode cX9_is 29 = .ok (.getfield 47, 3) := by decide +kernel
theorem dX9_is_32 : decode cX9_is 32 = .ok (.aload_n 0, 1) := by decide +kernel
theorem dX9_is_33 : decode cX9_is 33 = .ok (.getfield 26, 3) := by decide +kernel
theorem dX9_is_36 : decode cX9_is 36 = .ok (.invokevirtual 191, 3) := by decide +kernel
theorem dX9_is_39 : decode cX9_is 39 = .ok (.aload_n 0, 1) := by decide +kernel
theorem dX9_is_40 : decode cX9_is 40 = .ok (.getfield 47, 3) := by decide +kernel
theorem dX9_is_43 : decode cX9_is 43 = .ok (.aload_n 0, 1) := by decide +kernel
theorem dX9_is_44 : decode cX9_is 44 = .ok (.getfield 26, 3) := by decide +kernel
theorem dX9_is_47 : decode cX9_is 47 = .ok (.invokevirtual 194, 3) := by decide +kernel
theorem dX9_is_50 : decode cX9_is 50 = .ok (.ifCond .ne 7, 3) := by decide +kernel
theorem dX9_is_53 : decode cX9_is 53 = .ok (.iconst 1, 1) := by decide +kernel
theorem dX9_is_54 : decode cX9_is 54 = .ok (.goto 4, 3) := by decide +kernel
theorem dX9_is_57 : decode cX9_is 57 = .ok (.iconst 0, 1) := by decide +kernel
theorem dX9_is_58 : decode cX9_is 58 = .ok (.istore_n 2, 1) := by decide +kernel
theorem dX9_is_59 : decode cX9_is 59 = .ok (.goto 33, 3) := by decide +kernel
theorem dX9_is_62 : decode cX9_is 62 = .ok (.aload_n 0, 1) := by decide +kernel
theorem dX9_is_63 : decode cX9_is 63 = .ok (.getfield 26, 3) := by decide +kernel
theorem dX9_is_66 : decode cX9_is 66 = .ok (.invokevirtual 197, 3) := by decide +kernel
theorem dX9_is_69 : decode cX9_is 69 = .ok (.istore_n 2, 1) := by decide +kernel
theorem dX9_is_70 : decode cX9_is 70 = .ok (.goto 22, 3) := by decide +kernel
theorem dX9_is_73 : decode cX9_is 73 = .ok (.aload_n 0, 1) := by decide +kernel
theorem dX9_is_74 : decode cX9_is 74 = .ok (.getfield 61, 3) := by decide +kernel
theorem dX9_is_77 : decode cX9_is 77 = .ok (.aload_n 0, 1) := by decide +kernel
theorem dX9_is_78 : decode cX9_is 78 = .ok (.getfield 26, 3) := by decide +kernel
theorem dX9_is_81 : decode cX9_is 81 = .ok (.invokevirtual 200, 3) := by decide +kernel
theorem dX9_is_84 : decode cX9_is 84 = .ok (.istore_n 2, 1) := by decide +kernel
theorem dX9_is_85 : decode cX9_is 85 = .ok (.goto 7, 3) := by decide +kernel
theorem dX9_is_88 : decode cX9_is 88 = .ok (.sipush (-1002), 3) := by decide +kernel
theorem dX9_is_91 : decode cX9_is 91 = .ok (.ireturn, 1) := by decide +kernel
theorem dX9_is_92 : decode cX9_is 92 = .ok (.iload_n 2, 1) := by decide +kernel
theorem dX9_is_93 : decode cX9_is 93 = .ok (.ifCond .eq 7, 3) := by decide +kernel
theorem dX9_is_96 : decode cX9_is 96 = .ok (.iconst 1, 1) := by decide +kernel
theorem dX9_is_97 : decode cX9_is 97 = .ok (.goto 4, 3) := by decide +kernel
theorem dX9_is_100 : decode cX9_is 100 = .ok (.iconst 0, 1) := by decide +kernel
theorem dX9_is_101 : decode cX9_is 101 = .ok (.ireturn, 1) := by decide +kernel
set_option maxRecDepth 20000 in
theorem ggX9_disc_X1_find : GoodIn wsX9_disc wsX1_find := goodIn_r _ [7, 8, 9, 10, 11, 12, 13, 14, 15, 16, 17, 18, 19, 20, 21, 22, 23, 24, 25, 26, 27, 28, 29, 30, 31, 32, 33, 34, 35, 36, 37, 38, 39, 40, 6, 41, 42, 43, 44, 45, 46, 47, 48, 49, 50, 51, 52, 53, 54, 55, 56, 57, 58, 80, 81, 82, 83, 84, 85] rfl (by decide +kernel)
set_option maxRecDepth 20000 in
theorem gX9_disc_X1_find : GoodIn wsX9_disc (wsV RX9 200 RX1 yX1_find wsX1_find) := goodIn_app (goodIn_of _ (by decide +kernel)) ggX9_disc_X1_find
set_option maxRecDepth 20000 in
theorem ggX9_disc_X1_greatestSquare : GoodIn wsX9_disc wsX1_greatestSquare := goodIn_r _ [62, 10, 80, 81, 82] rfl (by decide +kernel)
set_option maxRecDepth 20000 in
theorem gX9_disc_X1_greatestSquare : GoodIn wsX9_disc (wsV RX9 204 RX1 yX1_greatestSquare wsX1_greatestSquare) := goodIn_app (goodIn_of _ (by decide +kernel)) ggX9_disc_X1_greatestSquare
set_option maxRecDepth 20000 in
theorem ggX9_disc_X1_middleX : GoodIn wsX9_disc wsX1_middleX := goodIn_r _ [66, 8, 80, 81, 82] rfl (by decide +kernel)
set_option maxRecDepth 20000 in
theorem gX9_disc_X1_middleX : GoodIn wsX9_disc (wsV RX9 207 RX1 yX1_middleX wsX1_middleX) := goodIn_app (goodIn_of _ (by decide +kernel)) ggX9_disc_X1_middleX
set_option maxRecDepth 20000 in
theorem ggX9_disc_X1_middleY : GoodIn wsX9_disc wsX1_middleY := goodIn_r _ [70, 9, 80, 81, 82] rfl (by decide +kernel)
set_option maxRecDepth 20000 in
theorem gX9_disc_X1_middleY : GoodIn wsX9_disc (wsV RX9 210 RX1 yX1_middleY wsX1_middleY) := goodIn_app (goodIn_of _ (by decide +kernel)) ggX9_disc_X1_middleY
theorem dX9_disc_0 : decode cX9_disc 0 = .ok (.iload_n 1, 1) := by decide +kernel
theorem dX9_disc_1 : decode cX9_disc 1 = .ok (.ifCond .lt 8, 3) := by decide +kernel
theorem dX9_disc_4 : decode cX9_disc 4 = .ok (.iload_n 1, 1) := by decide +kernel
theorem dX9_disc_5 : decode cX9_disc 5 = .ok (.iconst 2, 1) := by decide +kernel
theorem dX9_disc_6 : decode cX9_disc 6 = .ok (.if_icmp .le 7, 3) := by decide +kernel
theorem dX9_disc_9 : decode cX9_disc 9 = .ok (.sipush (-1002), 3) := by decide +kernel
theorem dX9_disc_12 : decode cX9_disc 12 = .ok (.ireturn, 1) := by decide +kernel
theorem dX9_disc_13 : decode cX9_disc 13 = .ok (.aload_n 0, 1) := by decide +kernel
theorem dX9_disc_14 : decode cX9_disc 14 = .ok (.getfield 61, 3) := by decide +kernel
theorem dX9_disc_17 : decode cX9_disc 17 = .ok (.aload_n 0, 1) := by decide +kernel
theorem dX9_disc_18 : decode cX9_disc 18 = .ok (.getfield 26, 3) := by decide +kernel
theorem dX9_disc_21 : decode cX9_disc 21 = .ok (.invokevirtual 200, 3) := by decide +kernel
theorem dX9_disc_24 : decode cX9_disc 24 = .ok (.ifCond .ne 7, 3) := by decide +kernel
theorem dX9_disc_27 : decode cX9_disc 27 = .ok (.sipush (-999), 3) := by decide +kernel
theorem dX9_disc_30 : decode cX9_disc 30 = .ok (.ireturn, 1) := by decide +kernel
theorem dX9_disc_31 : decode cX9_disc 31 = .ok (.iload_n 1, 1) := by decide +kernel
theorem dX9_disc_32 : decode cX9_disc 32 = .ok (.iconst 2, 1) := by decide +kernel
theorem dX9_disc_33 : decode cX9_disc 33 = .ok (.if_icmp .ne 11, 3) := by decide +kernel
theorem dX9_disc_36 : decode cX9_disc 36 = .ok (.aload_n 0, 1) := by decide +kernel
theorem dX9_disc_37 : decode cX9_disc 37 = .ok (.getfield 61, 3) := by decide +kernel
theorem dX9_disc_40 : decode cX9_disc 40 = .ok (.invokevirtual 204, 3) := by decide +kernel
theorem dX9_disc_43 : decode cX9_disc 43 = .ok (.ireturn, 1) := by decide +kernel
theorem dX9_disc_44 : decode cX9_disc 44 = .ok (.iload_n 1, 1) := by decide +kernel
theorem dX9_disc_45 : decode cX9_disc 45 = .ok (.ifCond .ne 13, 3) := by decide +kernel
theorem dX9_disc_48 : decode cX9_disc 48 = .ok (.aload_n 0, 1) := by decide +kernel
theorem dX9_disc_49 : decode cX9_disc 49 = .ok (.getfield 61, 3) := by decide +kernel
theorem dX9_disc_52 : decode cX9_disc 52 = .ok (.invokevirtual 207, 3) := by decide +kernel
theorem dX9_disc_55 : decode cX9_disc 55 = .ok (.goto 10, 3) := by decide +kernel
theorem dX9_disc_58 : decode cX9_disc 58 = .ok (.aload_n 0, 1) := by decide +kernel
theorem dX9_disc_59 : decode cX9_disc 59 = .ok (.getfield 61, 3) := by decide +kernel
theorem dX9_disc_62 : decode cX9_disc 62 = .ok (.invokevirtual 210, 3) := by decide +kernel
theorem dX9_disc_65 : decode cX9_disc 65 = .ok (.ireturn, 1) := by decide +kernel
set_option maxRecDepth 20000 in
theorem ggX9_part_X2_knows : GoodIn wsX9_part wsX2_knows := goodIn_r _ [7, 8, 9, 10, 6, 11, 12, 13, 66, 67, 68] rfl (by decide +kernel)
set_option maxRecDepth 20000 in
theorem gX9_part_X2_knows : GoodIn wsX9_part (wsV RX9 148 RX2 yX2_knows wsX2_knows) := goodIn_app (goodIn_of _ (by decide +kernel)) ggX9_part_X2_knows
set_option maxRecDepth 20000 in
theorem ggX9_part_X2_holds : GoodIn wsX9_part wsX2_holds := goodIn_r _ [17, 18, 19, 4, 5, 6, 7, 8, 9, 10, 11, 12, 13, 66, 67, 68] rfl (by decide +kernel)
set_option maxRecDepth 20000 in
theorem gX9_part_X2_holds : GoodIn wsX9_part (wsV RX9 151 RX2 yX2_holds wsX2_holds) := goodIn_app (goodIn_of _ (by decide +kernel)) ggX9_part_X2_holds
set_option maxRecDepth 20000 in
theorem ggX9_part_X2_members : GoodIn wsX9_part wsX2_members := goodIn_r _ [23, 18, 66, 67, 68] rfl (by decide +kernel)
set_option maxRecDepth 20000 in
theorem gX9_part_X2_members : GoodIn wsX9_part (wsV RX9 176 RX2 yX2_members wsX2_members) := goodIn_app (goodIn_of _ (by decide +kernel)) ggX9_part_X2_members
set_option maxRecDepth 20000 in
theorem ggX9_part_X4_split : GoodIn wsX9_part wsX4_split := goodIn_r _ [28, 29, 30, 31, 32, 33, 34, 9, 10, 6, 11, 12, 13, 35, 36, 37, 27, 38, 39, 40, 41, 42, 43, 44, 45, 46, 47, 48, 49, 50, 51, 52, 4, 5, 7, 8, 69, 70, 71, 66, 67, 68] rfl (by decide +kernel)
set_option maxRecDepth 20000 in
theorem gX9_part_X4_split : GoodIn wsX9_part (wsV RX9 180 RX4 yX4_split wsX4_split) := goodIn_app (goodIn_of _ (by decide +kernel)) ggX9_part_X4_split
set_option maxRecDepth 20000 in
theorem ggX9_part_X4_leastOf : GoodIn wsX9_part wsX4_leastOf := goodIn_r _ [56, 33, 69, 70, 71] rfl (by decide +kernel)
set_option maxRecDepth 20000 in
theorem gX9_part_X4_leastOf : GoodIn wsX9_part (wsV RX9 213 RX4 yX4_leastOf wsX4_leastOf) := goodIn_app (goodIn_of _ (by decide +kernel)) ggX9_part_X4_leastOf
theorem dX9_part_0 : decode cX9_part 0 = .ok (.aload_n 0, 1) := by decide +kernel
theorem dX9_part_1 : decode cX9_part 1 = .ok (.getfield 26, 3) := by decide +kernel
theorem dX9_part_4 : decode cX9_part 4 = .ok (.iload_n 1, 1) := by decide +kernel
theorem dX9_part_5 : decode cX9_part 5 = .ok (.invokevirtual 148, 3) := by decide +kernel
theorem dX9_part_8 : decode cX9_part 8 = .ok (.ifCond .ne 7, 3) := by decide +kernel
theorem dX9_part_11 : decode cX9_part 11 = .ok (.sipush (-1001), 3) := by decide +kernel
theorem dX9_part_14 : decode cX9_part 14 = .ok (.ireturn, 1) := by decide +kernel
theorem dX9_part_15 : decode cX9_part 15 = .ok (.aload_n 0, 1) := by decide +kernel
theorem dX9_part_16 : decode cX9_part 16 = .ok (.getfield 26, 3) := by decide +kernel
theorem dX9_part_19 : decode cX9_part 19 = .ok (.iload_n 1, 1) := by decide +kernel
theorem dX9_part_20 : decode cX9_part 20 = .ok (.invokevirtual 151, 3) := by decide +kernel
theorem dX9_part_23 : decode cX9_part 23 = .ok (.ifCond .ne 7, 3) := by decide +kernel
theorem dX9_part_26 : decode cX9_part 26 = .ok (.sipush (-999), 3) := by decide +kernel
theorem dX9_part_29 : decode cX9_part 29 = .ok (.ireturn, 1) := by decide +kernel
theorem dX9_part_30 : decode cX9_part 30 = .ok (.aload_n 0, 1) := by decide +kernel
theorem dX9_part_31 : decode cX9_part 31 = .ok (.getfield 33, 3) := by decide +kernel
theorem dX9_part_34 : decode cX9_part 34 = .ok (.aload_n 0, 1) := by decide +kernel
theorem dX9_part_35 : decode cX9_part 35 = .ok (.getfield 26, 3) := by decide +kernel
theorem dX9_part_38 : decode cX9_part 38 = .ok (.aload_n 0, 1) := by decide +kernel
theorem dX9_part_39 : decode cX9_part 39 = .ok (.getfield 26, 3) := by decide +kernel
theorem dX9_part_42 : decode cX9_part 42 = .ok (.invokevirtual 176, 3) := by decide +kernel
theorem dX9_part_45 : decode cX9_part 45 = .ok (.iconst 1, 1) := by decide +kernel
theorem dX9_part_46 : decode cX9_part 46 = .ok (.iconst 1, 1) := by decide +kernel
theorem dX9_part_47 : decode cX9_part 47 = .ok (.invokevirtual 180, 3) := by decide +kernel
theorem dX9_part_50 : decode cX9_part 50 = .ok (.pop, 1) := by decide +kernel
theorem dX9_part_51 : decode cX9_part 51 = .ok (.aload_n 0, 1) := by decide +kernel
theorem dX9_part_52 : decode cX9_part 52 = .ok (.getfield 33, 3) := by decide +kernel
theorem dX9_part_55 : decode cX9_part 55 = .ok (.iload_n 1, 1) := by decide +kernel
theorem dX9_part_56 : decode cX9_part 56 = .ok (.invokevirtual 213, 3) := by decide +kernel
theorem dX9_part_59 : decode cX9_part 59 = .ok (.ireturn, 1) := by decide +kernel
set_option maxRecDepth 20000 in
theorem ggX9_hull_X3_wrap : GoodIn wsX9_hull wsX3_wrap := goodIn_r _ [7, 8, 9, 10, 11, 12, 13, 14, 15, 16, 17, 18, 19, 20, 21, 22, 23, 6, 24, 25, 26, 27, 28, 29, 30, 31, 32, 33, 34, 35, 36, 37, 38, 39, 40, 41, 42, 43, 44, 45, 46, 47, 48, 49, 50, 51, 52, 53, 54, 55, 56, 57, 58, 59, 60, 61, 62, 76, 77, 78, 79, 80, 81] rfl (by decide +kernel)
set_option maxRecDepth 20000 in
theorem gX9_hull_X3_wrap : GoodIn wsX9_hull (wsV RX9 191 RX3 yX3_wrap wsX3_wrap) := goodIn_app (goodIn_of _ (by decide +kernel)) ggX9_hull_X3_wrap
set_option maxRecDepth 20000 in
theorem ggX9_hull_X3_size : GoodIn wsX9_hull wsX3_size := goodIn_r _ [66, 8, 76, 77, 78] rfl (by decide +kernel)
set_option maxRecDepth 20000 in
theorem gX9_hull_X3_size : GoodIn wsX9_hull (wsV RX9 216 RX3 yX3_size wsX3_size) := goodIn_app (goodIn_of _ (by decide +kernel)) ggX9_hull_X3_size
theorem dX9_hull_0 : decode cX9_hull 0 = .ok (.aload_n 0, 1) := by decide +kernel
theorem dX9_hull_1 : decode cX9_hull 1 = .ok (.getfield 47, 3) := by decide +kernel
theorem dX9_hull_4 : decode cX9_hull 4 = .ok (.aload_n 0, 1) := by decide +kernel
theorem dX9_hull_5 : decode cX9_hull 5 = .ok (.getfield 26, 3) := by decide +kernel
theorem dX9_hull_8 : decode cX9_hull 8 = .ok (.invokevirtual 191, 3) := by decide +kernel
theorem dX9_hull_11 : decode cX9_hull 11 = .ok (.aload_n 0, 1) := by decide +kernel
theorem dX9_hull_12 : decode cX9_hull 12 = .ok (.getfield 47, 3) := by decide +kernel
theorem dX9_hull_15 : decode cX9_hull 15 = .ok (.invokevirtual 216, 3) := by decide +kernel
theorem dX9_hull_18 : decode cX9_hull 18 = .ok (.ireturn, 1) := by decide +kernel
set_option maxRecDepth 20000 in
theorem ggX9_corner_X3_wrap : GoodIn wsX9_corner wsX3_wrap := goodIn_r _ [7, 8, 9, 10, 11, 12, 13, 14, 15, 16, 17, 18, 19, 20, 21, 22, 23, 6, 24, 25, 26, 27, 28, 29, 30, 31, 32, 33, 34, 35, 36, 37, 38, 39, 40, 41, 42, 43, 44, 45, 46, 47, 48, 49, 50, 51, 52, 53, 54, 55, 56, 57, 58, 59, 60, 61, 62, 81, 82, 83, 84, 85, 86] rfl (by decide +kernel)
set_option maxRecDepth 20000 in
theorem gX9_corner_X3_wrap : GoodIn wsX9_corner (wsV RX9 191 RX3 yX3_wrap wsX3_wrap) := goodIn_app (goodIn_of _ (by decide +kernel)) ggX9_corner_X3_wrap
set_option maxRecDepth 20000 in
theorem ggX9_corner_X3_size : GoodIn wsX9_corner wsX3_size := goodIn_r _ [66, 8, 81, 82, 83] rfl (by decide +kernel)
set_option maxRecDepth 20000 in
theorem gX9_corner_X3_size : GoodIn wsX9_corner (wsV RX9 216 RX3 yX3_size wsX3_size) := goodIn_app (goodIn_of _ (by decide +kernel)) ggX9_corner_X3_size
set_option maxRecDepth 20000 in
theorem ggX9_corner_X3_fieldOf : GoodIn wsX9_corner wsX3_fieldOf := goodIn_r _ [70, 8, 13, 14, 71, 35, 36, 18, 37, 20, 29, 81, 82, 83, 84, 85, 86] rfl (by decide +kernel)
set_option maxRecDepth 20000 in
theorem gX9_corner_X3_fieldOf : GoodIn wsX9_corner (wsV RX9 219 RX3 yX3_fieldOf wsX3_fieldOf) := goodIn_app (goodIn_of _ (by decide +kernel)) ggX9_corner_X3_fieldOf
theorem dX9_corner_0 : decode cX9_corner 0 = .ok (.aload_n 0, 1) := by decide +kernel
theorem dX9_corner_1 : decode cX9_corner 1 = .ok (.getfield 47, 3) := by decide +kernel
theorem dX9_corner_4 : decode cX9_corner 4 = .ok (.aload_n 0, 1) := by decide +kernel
theorem dX9_corner_5 : decode cX9_corner 5 = .ok (.getfield 26, 3) := by decide +kernel
theorem dX9_corner_8 : decode cX9_corner 8 = .ok (.invokevirtual 191, 3) := by decide +kernel
theorem dX9_corner_11 : decode cX9_corner 11 = .ok (.iload_n 1, 1) := by decide +kernel
theorem dX9_corner_12 : decode cX9_corner 12 = .ok (.ifCond .lt 29, 3) := by decide +kernel
theorem dX9_corner_15 : decode cX9_corner 15 = .ok (.iload_n 1, 1) := by decide +kernel
theorem dX9_corner_16 : decode cX9_corner 16 = .ok (.aload_n 0, 1) := by decide +kernel
theorem dX9_corner_17 : decode cX9_corner 17 = .ok (.getfield 47, 3) := by decide +kernel
theorem dX9_corner_20 : decode cX9_corner 20 = .ok (.invokevirtual 216, 3) := by decide +kernel
theorem dX9_corner_23 : decode cX9_corner 23 = .ok (.if_icmp .ge 18, 3) := by decide +kernel
theorem dX9_corner_26 : decode cX9_corner 26 = .ok (.aload_n 0, 1) := by decide +kernel
theorem dX9_corner_27 : decode cX9_corner 27 = .ok (.getfield 47, 3) := by decide +kernel
theorem dX9_corner_30 : decode cX9_corner 30 = .ok (.aload_n 0, 1) := by decide +kernel
theorem dX9_corner_31 : decode cX9_corner 31 = .ok (.getfield 26, 3) := by decide +kernel
theorem dX9_corner_34 : decode cX9_corner 34 = .ok (.iload_n 1, 1) := by decide +kernel
theorem dX9_corner_35 : decode cX9_corner 35 = .ok (.invokevirtual 219, 3) := by decide +kernel
theorem dX9_corner_38 : decode cX9_corner 38 = .ok (.goto 6, 3) := by decide +kernel
theorem dX9_corner_41 : decode cX9_corner 41 = .ok (.sipush (-999), 3) := by decide +kernel
theorem dX9_corner_44 : decode cX9_corner 44 = .ok (.ireturn, 1) := by decide +kernel
set_option maxRecDepth 20000 in
theorem ggX9_deep_X2_knows : GoodIn wsX9_deep wsX2_knows := goodIn_r _ [7, 8, 9, 10, 6, 11, 12, 13, 63, 64, 65] rfl (by decide +kernel)
set_option maxRecDepth 20000 in
theorem gX9_deep_X2_knows : GoodIn wsX9_deep (wsV RX9 148 RX2 yX2_knows wsX2_knows) := goodIn_app (goodIn_of _ (by decide +kernel)) ggX9_deep_X2_knows
set_option maxRecDepth 20000 in
theorem ggX9_deep_X0_depthOf : GoodIn wsX9_deep wsX0_depthOf := goodIn_r _ [18, 19, 20, 21, 22, 23, 24, 25, 6, 26, 27, 28, 4, 5, 7, 8, 9, 10, 11, 12, 13, 29, 30, 31, 32, 33, 34, 35, 36, 37, 38, 39, 40, 41, 42, 43, 44, 45, 46, 47, 48, 49, 50, 51, 52, 53, 63, 64, 65] rfl (by decide +kernel)
set_option maxRecDepth 20000 in
theorem gX9_deep_X0_depthOf : GoodIn wsX9_deep (wsV RX9 223 RX0 yX0_depthOf wsX0_depthOf) := goodIn_app (goodIn_of _ (by decide +kernel)) ggX9_deep_X0_depthOf
theorem dX9_deep_0 : decode cX9_deep 0 = .ok (.aload_n 0, 1) := by decide +kernel
theorem dX9_deep_1 : decode cX9_deep 1 = .ok (.getfield 26, 3) := by decide +kernel
theorem dX9_deep_4 : decode cX9_deep 4 = .ok (.iload_n 1, 1) := by decide +kernel
theorem dX9_deep_5 : decode cX9_deep 5 = .ok (.invokevirtual 148, 3) := by decide +kernel
theorem dX9_deep_8 : decode cX9_deep 8 = .ok (.ifCond .eq 18, 3) := by decide +kernel
theorem dX9_deep_11 : decode cX9_deep 11 = .ok (.aload_n 0, 1) := by decide +kernel
theorem dX9_deep_12 : decode cX9_deep 12 = .ok (.getfield 54, 3) := by decide +kernel
theorem dX9_deep_15 : decode cX9_deep 15 = .ok (.aload_n 0, 1) := by decide +kernel
theorem dX9_deep_16 : decode cX9_deep 16 = .ok (.getfield 26, 3) := by decide +kernel
theorem dX9_deep_19 : decode cX9_deep 19 = .ok (.iload_n 1, 1) := by decide +kernel
theorem dX9_deep_20 : decode cX9_deep 20 = .ok (.invokevirtual 223, 3) := by decide +kernel
theorem dX9_deep_23 : decode cX9_deep 23 = .ok (.goto 6, 3) := by decide +kernel
theorem dX9_deep_26 : decode cX9_deep 26 = .ok (.sipush (-1001), 3) := by decide +kernel
theorem dX9_deep_29 : decode cX9_deep 29 = .ok (.ireturn, 1) := by decide +kernel
set_option maxRecDepth 20000 in
theorem ggX9_deepest_X2_fields : GoodIn wsX9_deepest wsX2_fields := goodIn_r _ [7, 8, 9, 63, 64, 65] rfl (by decide +kernel)
set_option maxRecDepth 20000 in
theorem gX9_deepest_X2_fields : GoodIn wsX9_deepest (wsV RX9 145 RX2 yX2_fields wsX2_fields) := goodIn_app (goodIn_of _ (by decide +kernel)) ggX9_deepest_X2_fields
set_option maxRecDepth 20000 in
theorem ggX9_deepest_X0_depthOf : GoodIn wsX9_deepest wsX0_depthOf := goodIn_r _ [14, 15, 16, 17, 18, 19, 20, 21, 6, 22, 23, 24, 25, 26, 27, 28, 4, 5, 7, 8, 9, 29, 30, 31, 32, 33, 34, 35, 36, 37, 38, 39, 40, 41, 42, 43, 44, 45, 46, 47, 48, 49, 50, 51, 52, 53, 63, 64, 65] rfl (by decide +kernel)
set_option maxRecDepth 20000 in
theorem gX9_deepest_X0_depthOf : GoodIn wsX9_deepest (wsV RX9 223 RX0 yX0_depthOf wsX0_depthOf) := goodIn_app (goodIn_of _ (by decide +kernel)) ggX9_deepest_X0_depthOf
theorem dX9_deepest_0 : decode cX9_deepest 0 = .ok (.iconst 0, 1) := by decide +kernel
theorem dX9_deepest_1 : decode cX9_deepest 1 = .ok (.istore_n 2, 1) := by decide +kernel
theorem dX9_deepest_2 : decode cX9_deepest 2 = .ok (.sipush (-999), 3) := by decide +kernel
theorem dX9_deepest_5 : decode cX9_deepest 5 = .ok (.istore_n 3, 1) := by decide +kernel
theorem dX9_deepest_6 : decode cX9_deepest 6 = .ok (.iconst 0, 1) := by decide +kernel
theorem dX9_deepest_7 : decode cX9_deepest 7 = .ok (.istore 4, 2) := by decide +kernel
theorem dX9_deepest_9 : decode cX9_deepest 9 = .ok (.iload 4, 2) := by decide +kernel
theorem dX9_deepest_11 : decode cX9_deepest 11 = .ok (.aload_n 0, 1) := by decide +kernel
theorem dX9_deepest_12 : decode cX9_deepest 12 = .ok (.getfield 26, 3) := by decide +kernel
theorem dX9_deepest_15 : decode cX9_deepest 15 = .ok (.invokevirtual 145, 3) := by decide +kernel
theorem dX9_deepest_18 : decode cX9_deepest 18 = .ok (.if_icmp .ge 36, 3) := by decide +kernel
theorem dX9_deepest_21 : decode cX9_deepest 21 = .ok (.aload_n 0, 1) := by decide +kernel
theorem dX9_deepest_22 : decode cX9_deepest 22 = .ok (.getfield 54, 3) := by decide +kernel
theorem dX9_deepest_25 : decode cX9_deepest 25 = .ok (.aload_n 0, 1) := by decide +kernel
theorem dX9_deepest_26 : decode cX9_deepest 26 = .ok (.getfield 26, 3) := by decide +kernel
theorem dX9_deepest_29 : decode cX9_deepest 29 = .ok (.iload 4, 2) := by decide +kernel
theorem dX9_deepest_31 : decode cX9_deepest 31 = .ok (.invokevirtual 223, 3) := by decide +kernel
theorem dX9_deepest_34 : decode cX9_deepest 34 = .ok (.istore 5, 2) := by decide +kernel
theorem dX9_deepest_36 : decode cX9_deepest 36 = .ok (.iload 5, 2) := by decide +kernel
theorem dX9_deepest_38 : decode cX9_deepest 38 = .ok (.iload_n 2, 1) := by decide +kernel
theorem dX9_deepest_39 : decode cX9_deepest 39 = .ok (.if_icmp .le 9, 3) := by decide +kernel
theorem dX9_deepest_42 : decode cX9_deepest 42 = .ok (.iload 5, 2) := by decide +kernel
theorem dX9_deepest_44 : decode cX9_deepest 44 = .ok (.istore_n 2, 1) := by decide +kernel
theorem dX9_deepest_45 : decode cX9_deepest 45 = .ok (.iload 4, 2) := by decide +kernel
theorem dX9_deepest_47 : decode cX9_deepest 47 = .ok (.istore_n 3, 1) := by decide +kernel
theorem dX9_deepest_48 : decode cX9_deepest 48 = .ok (.iinc 4 1, 3) := by decide +kernel
theorem dX9_deepest_51 : decode cX9_deepest 51 = .ok (.goto (-42), 3) := by decide +kernel
theorem dX9_deepest_54 : decode cX9_deepest 54 = .ok (.iload_n 1, 1) := by decide +kernel
theorem dX9_deepest_55 : decode cX9_deepest 55 = .ok (.ifCond .eq 7, 3) := by decide +kernel
theorem dX9_deepest_58 : decode cX9_deepest 58 = .ok (.iload_n 3, 1) := by decide +kernel
theorem dX9_deepest_59 : decode cX9_deepest 59 = .ok (.goto 4, 3) := by decide +kernel
theorem dX9_deepest_62 : decode cX9_deepest 62 = .ok (.iload_n 2, 1) := by decide +kernel
theorem dX9_deepest_63 : decode cX9_deepest 63 = .ok (.ireturn, 1) := by decide +kernel
set_option maxRecDepth 20000 in
theorem ggX9_needed_X2_knows : GoodIn wsX9_needed wsX2_knows := goodIn_r _ [7, 8, 9, 10, 6, 11, 12, 13, 77, 78, 79] rfl (by decide +kernel)
set_option maxRecDepth 20000 in
theorem gX9_needed_X2_knows : GoodIn wsX9_needed (wsV RX9 148 RX2 yX2_knows wsX2_knows) := goodIn_app (goodIn_of _ (by decide +kernel)) ggX9_needed_X2_knows
set_option maxRecDepth 20000 in
theorem ggX9_needed_X0_measure : GoodIn wsX9_needed wsX0_measure := goodIn_r _ [18, 19, 20, 9, 10, 6, 11, 12, 13, 21, 22, 23, 17, 24, 25, 26, 27, 28, 29, 30, 31, 32, 33, 34, 4, 5, 7, 8, 35, 36, 37, 38, 39, 40, 41, 42, 43, 44, 45, 46, 47, 48, 49, 50, 51, 52, 53, 54, 55, 56, 57, 58, 59, 80, 77, 78, 79] rfl (by decide +kernel)
set_option maxRecDepth 20000 in
theorem gX9_needed_X0_measure : GoodIn wsX9_needed (wsV RX9 226 RX0 yX0_measure wsX0_measure) := goodIn_app (goodIn_of _ (by decide +kernel)) ggX9_needed_X0_measure
set_option maxRecDepth 20000 in
theorem ggX9_needed_X0_isNeeded : GoodIn wsX9_needed wsX0_isNeeded := goodIn_r _ [63, 19, 29, 30, 31, 6, 32, 33, 34, 4, 5, 7, 8, 9, 10, 11, 12, 13, 20, 64, 65, 66, 17, 67, 35, 36, 37, 38, 39, 40, 41, 42, 80, 77, 78, 79] rfl (by decide +kernel)
set_option maxRecDepth 20000 in
theorem gX9_needed_X0_isNeeded : GoodIn wsX9_needed (wsV RX9 228 RX0 yX0_isNeeded wsX0_isNeeded) := goodIn_app (goodIn_of _ (by decide +kernel)) ggX9_needed_X0_isNeeded
theorem dX9_needed_0 : decode cX9_needed 0 = .ok (.aload_n 0, 1) := by decide +kernel
theorem dX9_needed_1 : decode cX9_needed 1 = .ok (.getfield 26, 3) := by decide +kernel
theorem dX9_needed_4 : decode cX9_needed 4 = .ok (.iload_n 1, 1) := by decide +kernel
theorem dX9_needed_5 : decode cX9_needed 5 = .ok (.invokevirtual 148, 3) := by decide +kernel
theorem dX9_needed_8 : decode cX9_needed 8 = .ok (.ifCond .ne 7, 3) := by decide +kernel
theorem dX9_needed_11 : decode cX9_needed 11 = .ok (.sipush (-1001), 3) := by decide +kernel
theorem dX9_needed_14 : decode cX9_needed 14 = .ok (.ireturn, 1) := by decide +kernel
theorem dX9_needed_15 : decode cX9_needed 15 = .ok (.aload_n 0, 1) := by decide +kernel
theorem dX9_needed_16 : decode cX9_needed 16 = .ok (.getfield 54, 3) := by decide +kernel
theorem dX9_needed_19 : decode cX9_needed 19 = .ok (.aload_n 0, 1) := by decide +kernel
theorem dX9_needed_20 : decode cX9_needed 20 = .ok (.getfield 26, 3) := by decide +kernel
theorem dX9_needed_23 : decode cX9_needed 23 = .ok (.invokevirtual 226, 3) := by decide +kernel
theorem dX9_needed_26 : decode cX9_needed 26 = .ok (.aload_n 0, 1) := by decide +kernel
theorem dX9_needed_27 : decode cX9_needed 27 = .ok (.getfield 54, 3) := by decide +kernel
theorem dX9_needed_30 : decode cX9_needed 30 = .ok (.aload_n 0, 1) := by decide +kernel
theorem dX9_needed_31 : decode cX9_needed 31 = .ok (.getfield 26, 3) := by decide +kernel
theorem dX9_needed_34 : decode cX9_needed 34 = .ok (.iload_n 1, 1) := by decide +kernel
theorem dX9_needed_35 : decode cX9_needed 35 = .ok (.invokevirtual 228, 3) := by decide +kernel
theorem dX9_needed_38 : decode cX9_needed 38 = .ok (.ifCond .eq 7, 3) := by decide +kernel
theorem dX9_needed_41 : decode cX9_needed 41 = .ok (.iconst 1, 1) := by decide +kernel
theorem dX9_needed_42 : decode cX9_needed 42 = .ok (.goto 4, 3) := by decide +kernel
theorem dX9_needed_45 : decode cX9_needed 45 = .ok (.iconst 0, 1) := by decide +kernel
theorem dX9_needed_46 : decode cX9_needed 46 = .ok (.ireturn, 1) := by decide +kernel
set_option maxRecDepth 20000 in
theorem ggX9_balls_X0_measure : GoodIn wsX9_balls wsX0_measure := goodIn_r _ [7, 8, 9, 10, 11, 12, 13, 14, 15, 16, 17, 18, 6, 19, 20, 21, 22, 23, 24, 25, 26, 27, 28, 29, 30, 31, 32, 33, 34, 35, 36, 37, 38, 39, 40, 41, 42, 43, 44, 45, 46, 47, 48, 49, 50, 51, 52, 53, 54, 55, 56, 57, 58, 77, 78, 79, 80] rfl (by decide +kernel)
set_option maxRecDepth 20000 in
theorem gX9_balls_X0_measure : GoodIn wsX9_balls (wsV RX9 226 RX0 yX0_measure wsX0_measure) := goodIn_app (goodIn_of _ (by decide +kernel)) ggX9_balls_X0_measure
set_option maxRecDepth 20000 in
theorem ggX9_balls_X2_fields : GoodIn wsX9_balls wsX2_fields := goodIn_r _ [13, 14, 15, 78, 79, 80] rfl (by decide +kernel)
set_option maxRecDepth 20000 in
theorem gX9_balls_X2_fields : GoodIn wsX9_balls (wsV RX9 145 RX2 yX2_fields wsX2_fields) := goodIn_app (goodIn_of _ (by decide +kernel)) ggX9_balls_X2_fields
set_option maxRecDepth 20000 in
theorem ggX9_balls_X0_isNeeded : GoodIn wsX9_balls wsX0_isNeeded := goodIn_r _ [63, 8, 24, 25, 26, 12, 27, 28, 29, 30, 31, 32, 33, 10, 11, 13, 14, 15, 9, 64, 65, 66, 6, 67, 34, 35, 36, 37, 38, 39, 40, 41, 77, 78, 79, 80] rfl (by decide +kernel)
set_option maxRecDepth 20000 in
theorem gX9_balls_X0_isNeeded : GoodIn wsX9_balls (wsV RX9 228 RX0 yX0_isNeeded wsX0_isNeeded) := goodIn_app (goodIn_of _ (by decide +kernel)) ggX9_balls_X0_isNeeded
theorem dX9_balls_0 : decode cX9_balls 0 = .ok (.aload_n 0, 1) := by decide +kernel
theorem dX9_balls_1 : decode cX9_balls 1 = .ok (.getfield 54, 3) := by decide +kernel
theorem dX9_balls_4 : decode cX9_balls 4 = .ok (.aload_n 0, 1) := by decide +kernel
theorem dX9_balls_5 : decode cX9_balls 5 = .ok (.getfield 26, 3) := by decide +kernel
theorem dX9_balls_8 : decode cX9_balls 8 = .ok (.invokevirtual 226, 3) := by decide +kernel
theorem dX9_balls_11 : decode cX9_balls 11 = .ok (.iconst 0, 1) := by decide +kernel
theorem dX9_balls_12 : decode cX9_balls 12 = .ok (.istore_n 1, 1) := by decide +kernel
theorem dX9_balls_13 : decode cX9_balls 13 = .ok (.iconst 0, 1) := by decide +kernel
theorem dX9_balls_14 : decode cX9_balls 14 = .ok (.istore_n 2, 1) := by decide +kernel
theorem dX9_balls_15 : decode cX9_balls 15 = .ok (.iload_n 2, 1) := by decide +kernel
theorem dX9_balls_16 : decode cX9_balls 16 = .ok (.aload_n 0, 1) := by decide +kernel
theorem dX9_balls_17 : decode cX9_balls 17 = .ok (.getfield 26, 3) := by decide +kernel
theorem dX9_balls_20 : decode cX9_balls 20 = .ok (.invokevirtual 145, 3) := by decide +kernel
theorem dX9_balls_23 : decode cX9_balls 23 = .ok (.if_icmp .ge 27, 3) := by decide +kernel
theorem dX9_balls_26 : decode cX9_balls 26 = .ok (.aload_n 0, 1) := by decide +kernel
theorem dX9_balls_27 : decode cX9_balls 27 = .ok (.getfield 54, 3) := by decide +kernel
theorem dX9_balls_30 : decode cX9_balls 30 = .ok (.aload_n 0, 1) := by decide +kernel
theorem dX9_balls_31 : decode cX9_balls 31 = .ok (.getfield 26, 3) := by decide +kernel
theorem dX9_balls_34 : decode cX9_balls 34 = .ok (.iload_n 2, 1) := by decide +kernel
theorem dX9_balls_35 : decode cX9_balls 35 = .ok (.invokevirtual 228, 3) := by decide +kernel
theorem dX9_balls_38 : decode cX9_balls 38 = .ok (.ifCond .eq 6, 3) := by decide +kernel
theorem dX9_balls_41 : decode cX9_balls 41 = .ok (.iinc 1 1, 3) := by decide +kernel
theorem dX9_balls_44 : decode cX9_balls 44 = .ok (.iinc 2 1, 3) := by decide +kernel
theorem dX9_balls_47 : decode cX9_balls 47 = .ok (.goto (-32), 3) := by decide +kernel
theorem dX9_balls_50 : decode cX9_balls 50 = .ok (.iload_n 1, 1) := by decide +kernel
theorem dX9_balls_51 : decode cX9_balls 51 = .ok (.ireturn, 1) := by decide +kernel
set_option maxRecDepth 20000 in
theorem ggX9_loose_X2_knows : GoodIn wsX9_loose wsX2_knows := goodIn_r _ [7, 8, 9, 10, 6, 11, 12, 13, 64, 65, 66] rfl (by decide +kernel)
set_option maxRecDepth 20000 in
theorem gX9_loose_X2_knows : GoodIn wsX9_loose (wsV RX9 148 RX2 yX2_knows wsX2_knows) := goodIn_app (goodIn_of _ (by decide +kernel)) ggX9_loose_X2_knows
set_option maxRecDepth 20000 in
theorem ggX9_loose_X7_isLoose : GoodIn wsX9_loose wsX7_isLoose := goodIn_r _ [18, 19, 20, 21, 6, 22, 23, 24, 4, 5, 7, 8, 9, 10, 11, 12, 13, 25, 26, 27, 28, 29, 30, 31, 32, 33, 34, 35, 36, 37, 38, 39, 40, 41, 42, 43, 44, 45, 46, 47, 17, 48, 49, 50, 51, 52, 53, 54, 64, 65, 66] rfl (by decide +kernel)
set_option maxRecDepth 20000 in
theorem gX9_loose_X7_isLoose : GoodIn wsX9_loose (wsV RX9 232 RX7 yX7_isLoose wsX7_isLoose) := goodIn_app (goodIn_of _ (by decide +kernel)) ggX9_loose_X7_isLoose
theorem dX9_loose_0 : decode cX9_loose 0 = .ok (.aload_n 0, 1) := by decide +kernel
theorem dX9_loose_1 : decode cX9_loose 1 = .ok (.getfield 26, 3) := by decide +kernel
theorem dX9_loose_4 : decode cX9_loose 4 = .ok (.iload_n 1, 1) := by decide +kernel
theorem dX9_loose_5 : decode cX9_loose 5 = .ok (.invokevirtual 148, 3) := by decide +kernel
theorem dX9_loose_8 : decode cX9_loose 8 = .ok (.ifCond .ne 7, 3) := by decide +kernel
theorem dX9_loose_11 : decode cX9_loose 11 = .ok (.sipush (-1001), 3) := by decide +kernel
theorem dX9_loose_14 : decode cX9_loose 14 = .ok (.ireturn, 1) := by decide +kernel
theorem dX9_loose_15 : decode cX9_loose 15 = .ok (.aload_n 0, 1) := by decide +kernel
theorem dX9_loose_16 : decode cX9_loose 16 = .ok (.getfield 68, 3) := by decide +kernel
theorem dX9_loose_19 : decode cX9_loose 19 = .ok (.aload_n 0, 1) := by decide +kernel
theorem dX9_loose_20 : decode cX9_loose 20 = .ok (.getfield 26, 3) := by decide +kernel
theorem dX9_loose_23 : decode cX9_loose 23 = .ok (.iload_n 1, 1) := by decide +kernel
theorem dX9_loose_24 : decode cX9_loose 24 = .ok (.invokevirtual 232, 3) := by decide +kernel
theorem dX9_loose_27 : decode cX9_loose 27 = .ok (.ifCond .eq 7, 3) := by decide +kernel
theorem dX9_loose_30 : decode cX9_loose 30 = .ok (.iconst 1, 1) := by decide +kernel
theorem dX9_loose_31 : decode cX9_loose 31 = .ok (.goto 4, 3) := by decide +kernel
theorem dX9_loose_34 : decode cX9_loose 34 = .ok (.iconst 0, 1) := by decide +kernel
theorem dX9_loose_35 : decode cX9_loose 35 = .ok (.ireturn, 1) := by decide +kernel
set_option maxRecDepth 20000 in
theorem ggX9_thinning_X7_takeOnce : GoodIn wsX9_thinning wsX7_takeOnce := goodIn_r _ [7, 8, 9, 10, 11, 12, 13, 14, 15, 16, 17, 18, 19, 20, 21, 22, 23, 24, 25, 26, 27, 28, 29, 30, 31, 32, 33, 34, 35, 36, 37, 38, 39, 40, 41, 42, 43, 44, 45, 46, 47, 48, 6, 49, 50, 51, 52, 53, 54, 55, 56, 57, 58, 59, 60, 61, 62, 63, 64, 65, 66, 67, 68, 69, 79, 80, 81, 82] rfl (by decide +kernel)
set_option maxRecDepth 20000 in
theorem gX9_thinning_X7_takeOnce : GoodIn wsX9_thinning (wsV RX9 235 RX7 yX7_takeOnce wsX7_takeOnce) := goodIn_app (goodIn_of _ (by decide +kernel)) ggX9_thinning_X7_takeOnce
theorem dX9_thinning_0 : decode cX9_thinning 0 = .ok (.aload_n 0, 1) := by decide +kernel
theorem dX9_thinning_1 : decode cX9_thinning 1 = .ok (.getfield 68, 3) := by decide +kernel
theorem dX9_thinning_4 : decode cX9_thinning 4 = .ok (.aload_n 0, 1) := by decide +kernel
theorem dX9_thinning_5 : decode cX9_thinning 5 = .ok (.getfield 26, 3) := by decide +kernel
theorem dX9_thinning_8 : decode cX9_thinning 8 = .ok (.invokevirtual 235, 3) := by decide +kernel
theorem dX9_thinning_11 : decode cX9_thinning 11 = .ok (.ireturn, 1) := by decide +kernel
set_option maxRecDepth 20000 in
theorem ggX9_thin_X7_takeOnce : GoodIn wsX9_thin wsX7_takeOnce := goodIn_r _ [7, 8, 9, 10, 11, 12, 13, 14, 15, 16, 17, 18, 19, 20, 21, 22, 23, 24, 25, 26, 27, 28, 29, 30, 31, 32, 33, 34, 35, 36, 37, 38, 39, 40, 41, 42, 43, 44, 45, 46, 47, 48, 6, 49, 50, 51, 52, 53, 54, 55, 56, 57, 58, 59, 60, 61, 62, 63, 64, 65, 66, 67, 68, 69, 79, 80, 81, 82] rfl (by decide +kernel)
set_option maxRecDepth 20000 in
theorem gX9_thin_X7_takeOnce : GoodIn wsX9_thin (wsV RX9 235 RX7 yX7_takeOnce wsX7_takeOnce) := goodIn_app (goodIn_of _ (by decide +kernel)) ggX9_thin_X7_takeOnce
theorem dX9_thin_0 : decode cX9_thin 0 = .ok (.iconst 0, 1) := by decide +kernel
theorem dX9_thin_1 : decode cX9_thin 1 = .ok (.istore_n 1, 1) := by decide +kernel
theorem dX9_thin_2 : decode cX9_thin 2 = .ok (.iconst 0, 1) := by decide +kernel
theorem dX9_thin_3 : decode cX9_thin 3 = .ok (.istore_n 2, 1) := by decide +kernel
theorem dX9_thin_4 : decode cX9_thin 4 = .ok (.iload_n 2, 1) := by decide +kernel
theorem dX9_thin_5 : decode cX9_thin 5 = .ok (.sipush 144, 3) := by decide +kernel
theorem dX9_thin_8 : decode cX9_thin 8 = .ok (.if_icmp .gt 32, 3) := by decide +kernel
theorem dX9_thin_11 : decode cX9_thin 11 = .ok (.aload_n 0, 1) := by decide +kernel
theorem dX9_thin_12 : decode cX9_thin 12 = .ok (.getfield 68, 3) := by decide +kernel
theorem dX9_thin_15 : decode cX9_thin 15 = .ok (.aload_n 0, 1) := by decide +kernel
theorem dX9_thin_16 : decode cX9_thin 16 = .ok (.getfield 26, 3) := by decide +kernel
theorem dX9_thin_19 : decode cX9_thin 19 = .ok (.invokevirtual 235, 3) := by decide +kernel
theorem dX9_thin_22 : decode cX9_thin 22 = .ok (.istore_n 3, 1) := by decide +kernel
theorem dX9_thin_23 : decode cX9_thin 23 = .ok (.iload_n 3, 1) := by decide +kernel
theorem dX9_thin_24 : decode cX9_thin 24 = .ok (.ifCond .ne 6, 3) := by decide +kernel
theorem dX9_thin_27 : decode cX9_thin 27 = .ok (.goto 13, 3) := by decide +kernel
theorem dX9_thin_30 : decode cX9_thin 30 = .ok (.iload_n 1, 1) := by decide +kernel
theorem dX9_thin_31 : decode cX9_thin 31 = .ok (.iload_n 3, 1) := by decide +kernel
theorem dX9_thin_32 : decode cX9_thin 32 = .ok (.iadd, 1) := by decide +kernel
theorem dX9_thin_33 : decode cX9_thin 33 = .ok (.istore_n 1, 1) := by decide +kernel
theorem dX9_thin_34 : decode cX9_thin 34 = .ok (.iinc 2 1, 3) := by decide +kernel
theorem dX9_thin_37 : decode cX9_thin 37 = .ok (.goto (-33), 3) := by decide +kernel
theorem dX9_thin_40 : decode cX9_thin 40 = .ok (.iload_n 1, 1) := by decide +kernel
theorem dX9_thin_41 : decode cX9_thin 41 = .ok (.ireturn, 1) := by decide +kernel
set_option maxRecDepth 20000 in
theorem ggX9_count_X6_steps : GoodIn wsX9_count wsX6_steps := goodIn_r _ [7, 8, 63, 64, 65, 66] rfl (by decide +kernel)
set_option maxRecDepth 20000 in
theorem gX9_count_X6_steps : GoodIn wsX9_count (wsV RX9 72 RX6 yX6_steps wsX6_steps) := goodIn_app (goodIn_of _ (by decide +kernel)) ggX9_count_X6_steps
set_option maxRecDepth 20000 in
theorem ggX9_count_X2_width : GoodIn wsX9_count wsX2_width := goodIn_r _ [13, 14, 67, 68, 69] rfl (by decide +kernel)
set_option maxRecDepth 20000 in
theorem gX9_count_X2_width : GoodIn wsX9_count (wsV RX9 238 RX2 yX2_width wsX2_width) := goodIn_app (goodIn_of _ (by decide +kernel)) ggX9_count_X2_width
set_option maxRecDepth 20000 in
theorem ggX9_count_X2_height : GoodIn wsX9_count wsX2_height := goodIn_r _ [18, 19, 67, 68, 69] rfl (by decide +kernel)
set_option maxRecDepth 20000 in
theorem gX9_count_X2_height : GoodIn wsX9_count (wsV RX9 241 RX2 yX2_height wsX2_height) := goodIn_app (goodIn_of _ (by decide +kernel)) ggX9_count_X2_height
set_option maxRecDepth 20000 in
theorem ggX9_count_X6_evenSteps : GoodIn wsX9_count wsX6_evenSteps := goodIn_r _ [23, 8, 24, 63, 64, 65, 66] rfl (by decide +kernel)
set_option maxRecDepth 20000 in
theorem gX9_count_X6_evenSteps : GoodIn wsX9_count (wsV RX9 244 RX6 yX6_evenSteps wsX6_evenSteps) := goodIn_app (goodIn_of _ (by decide +kernel)) ggX9_count_X6_evenSteps
set_option maxRecDepth 20000 in
theorem ggX9_count_X2_heapOnEdge : GoodIn wsX9_count wsX2_heapOnEdge := goodIn_r _ [28, 29, 30, 31, 12, 32, 14, 19, 33, 34, 35, 36, 37, 38, 39, 40, 41, 42, 43, 44, 45, 46, 47, 48, 49, 50, 51, 52, 53, 67, 68, 69] rfl (by decide +kernel)
set_option maxRecDepth 20000 in
theorem gX9_count_X2_heapOnEdge : GoodIn wsX9_count (wsV RX9 247 RX2 yX2_heapOnEdge wsX2_heapOnEdge) := goodIn_app (goodIn_of _ (by decide +kernel)) ggX9_count_X2_heapOnEdge
theorem dX9_count_0 : decode cX9_count 0 = .ok (.iload_n 1, 1) := by decide +kernel
theorem dX9_count_1 : decode cX9_count 1 = .ok (.tableswitch 75 0 4 #[35, 43, 51, 59, 67], 35) := by decide +kernel
theorem dX9_count_36 : decode cX9_count 36 = .ok (.aload_n 0, 1) := by decide +kernel
theorem dX9_count_37 : decode cX9_count 37 = .ok (.getfield 12, 3) := by decide +kernel
theorem dX9_count_40 : decode cX9_count 40 = .ok (.invokevirtual 72, 3) := by decide +kernel
theorem dX9_count_43 : decode cX9_count 43 = .ok (.ireturn, 1) := by decide +kernel
theorem dX9_count_44 : decode cX9_count 44 = .ok (.aload_n 0, 1) := by decide +kernel
theorem dX9_count_45 : decode cX9_count 45 = .ok (.getfield 26, 3) := by decide +kernel
theorem dX9_count_48 : decode cX9_count 48 = .ok (.invokevirtual 238, 3) := by decide +kernel
theorem dX9_count_51 : decode cX9_count 51 = .ok (.ireturn, 1) := by decide +kernel
theorem dX9_count_52 : decode cX9_count 52 = .ok (.aload_n 0, 1) := by decide +kernel
theorem dX9_count_53 : decode cX9_count 53 = .ok (.getfield 26, 3) := by decide +kernel
theorem dX9_count_56 : decode cX9_count 56 = .ok (.invokevirtual 241, 3) := by decide +kernel
theorem dX9_count_59 : decode cX9_count 59 = .ok (.ireturn, 1) := by decide +kernel
theorem dX9_count_60 : decode cX9_count 60 = .ok (.aload_n 0, 1) := by decide +kernel
theorem dX9_count_61 : decode cX9_count 61 = .ok (.getfield 12, 3) := by decide +kernel
theorem dX9_count_64 : decode cX9_count 64 = .ok (.invokevirtual 244, 3) := by decide +kernel
theorem dX9_count_67 : decode cX9_count 67 = .ok (.ireturn, 1) := by decide +kernel
theorem dX9_count_68 : decode cX9_count 68 = .ok (.aload_n 0, 1) := by decide +kernel
theorem dX9_count_69 : decode cX9_count 69 = .ok (.getfield 26, 3) := by decide +kernel
theorem dX9_count_72 : decode cX9_count 72 = .ok (.invokevirtual 247, 3) := by decide +kernel
theorem dX9_count_75 : decode cX9_count 75 = .ok (.ireturn, 1) := by decide +kernel
theorem dX9_count_76 : decode cX9_count 76 = .ok (.sipush (-1002), 3) := by decide +kernel
theorem dX9_count_79 : decode cX9_count 79 = .ok (.ireturn, 1) := by decide +kernel
theorem dX10_init_0 : decode cX10_init 0 = .ok (.aload_n 0, 1) := by decide +kernel
theorem dX10_init_1 : decode cX10_init 1 = .ok (.invokespecial 1, 3) := by decide +kernel
theorem dX10_init_4 : decode cX10_init 4 = .ok (.aload_n 0, 1) := by decide +kernel
theorem dX10_init_5 : decode cX10_init 5 = .ok (.bipush 60, 2) := by decide +kernel
theorem dX10_init_7 : decode cX10_init 7 = .ok (.newarray .int, 2) := by decide +kernel
theorem dX10_init_9 : decode cX10_init 9 = .ok (.putfield 7, 3) := by decide +kernel
theorem dX10_init_12 : decode cX10_init 12 = .ok (.aload_n 0, 1) := by decide +kernel
theorem dX10_init_13 : decode cX10_init 13 = .ok (.iconst 2, 1) := by decide +kernel
theorem dX10_init_14 : decode cX10_init 14 = .ok (.newarray .long, 2) := by decide +kernel
theorem dX10_init_16 : decode cX10_init 16 = .ok (.putfield 13, 3) := by decide +kernel
theorem dX10_init_19 : decode cX10_init 19 = .ok (.aload_n 0, 1) := by decide +kernel
theorem dX10_init_20 : decode cX10_init 20 = .ok (.iconst 2, 1) := by decide +kernel
theorem dX10_init_21 : decode cX10_init 21 = .ok (.newarray .long, 2) := by decide +kernel
theorem dX10_init_23 : decode cX10_init 23 = .ok (.putfield 17, 3) := by decide +kernel
theorem dX10_init_26 : decode cX10_init 26 = .ok (.aload_n 0, 1) := by decide +kernel
theorem dX10_init_27 : decode cX10_init 27 = .ok (.bipush 8, 2) := by decide +kernel
theorem dX10_init_29 : decode cX10_init 29 = .ok (.putfield 20, 3) := by decide +kernel
theorem dX10_init_32 : decode cX10_init 32 = .ok (.aload_n 0, 1) := by decide +kernel
theorem dX10_init_33 : decode cX10_init 33 = .ok (.bipush 8, 2) := by decide +kernel
theorem dX10_init_35 : decode cX10_init 35 = .ok (.putfield 24, 3) := by decide +kernel
theorem dX10_init_38 : decode cX10_init 38 = .ok (.aload_n 0, 1) := by decide +kernel
theorem dX10_init_39 : decode cX10_init 39 = .ok (.sipush 144, 3) := by decide +kernel
theorem dX10_init_42 : decode cX10_init 42 = .ok (.newarray .boolean, 2) := by decide +kernel
theorem dX10_init_44 : decode cX10_init 44 = .ok (.putfield 27, 3) := by decide +kernel
theorem dX10_init_47 : decode cX10_init 47 = .ok (.aload_n 0, 1) := by decide +kernel
theorem dX10_init_48 : decode cX10_init 48 = .ok (.sipush 144, 3) := by decide +kernel
theorem dX10_init_51 : decode cX10_init 51 = .ok (.newarray .boolean, 2) := by decide +kernel
theorem dX10_init_53 : decode cX10_init 53 = .ok (.putfield 31, 3) := by decide +kernel
theorem dX10_init_56 : decode cX10_init 56 = .ok (.aload_n 0, 1) := by decide +kernel
theorem dX10_init_57 : decode cX10_init 57 = .ok (.sipush 144, 3) := by decide +kernel
theorem dX10_init_60 : decode cX10_init 60 = .ok (.newarray .int, 2) := by decide +kernel
theorem dX10_init_62 : decode cX10_init 62 = .ok (.putfield 34, 3) := by decide +kernel
theorem dX10_init_65 : decode cX10_init 65 = .ok (.aload_n 0, 1) := by decide +kernel
theorem dX10_init_66 : decode cX10_init 66 = .ok (.sipush 144, 3) := by decide +kernel
theorem dX10_init_69 : decode cX10_init 69 = .ok (.newarray .int, 2) := by decide +kernel
theorem dX10_init_71 : decode cX10_init 71 = .ok (.putfield 37, 3) := by decide +kernel
theorem dX10_init_74 : decode cX10_init 74 = .ok (.aload_n 0, 1) := by decide +kernel
theorem dX10_init_75 : decode cX10_init 75 = .ok (.sipush 144, 3) := by decide +kernel
theorem dX10_init_78 : decode cX10_init 78 = .ok (.newarray .boolean, 2) := by decide +kernel
theorem dX10_init_80 : decode cX10_init 80 = .ok (.putfield 40, 3) := by decide +kernel
theorem dX10_init_83 : decode cX10_init 83 = .ok (.aload_n 0, 1) := by decide +kernel
theorem dX10_init_84 : decode cX10_init 84 = .ok (.sipush 300, 3) := by decide +kernel
theorem dX10_init_87 : decode cX10_init 87 = .ok (.newarray .int, 2) := by decide +kernel
theorem dX10_init_89 : decode cX10_init 89 = .ok (.putfield 43, 3) := by decide +kernel
theorem dX10_init_92 : decode cX10_init 92 = .ok (.aload_n 0, 1) := by decide +kernel
theorem dX10_init_93 : decode cX10_init 93 = .ok (.bipush 9, 2) := by decide +kernel
theorem dX10_init_95 : decode cX10_init 95 = .ok (.newarray .boolean, 2) := by decide +kernel
theorem dX10_init_97 : decode cX10_init 97 = .ok (.putfield 46, 3) := by decide +kernel
theorem dX10_init_100 : decode cX10_init 100 = .ok (.aload_n 0, 1) := by decide +kernel
theorem dX10_init_101 : decode cX10_init 101 = .ok (.bipush 9, 2) := by decide +kernel
theorem dX10_init_103 : decode cX10_init 103 = .ok (.newarray .int, 2) := by decide +kernel
theorem dX10_init_105 : decode cX10_init 105 = .ok (.putfield 49, 3) := by decide +kernel
theorem dX10_init_108 : decode cX10_init 108 = .ok (.return_, 1) := by decide +kernel
theorem dX10_in_0 : decode cX10_in 0 = .ok (.lload_n 0, 1) := by decide +kernel
theorem dX10_in_1 : decode cX10_in 1 = .ok (.lload_n 2, 1) := by decide +kernel
theorem dX10_in_2 : decode cX10_in 2 = .ok (.lcmp, 1) := by decide +kernel
theorem dX10_in_3 : decode cX10_in 3 = .ok (.ifCond .lt 14, 3) := by decide +kernel
theorem dX10_in_6 : decode cX10_in 6 = .ok (.lload_n 0, 1) := by decide +kernel
theorem dX10_in_7 : decode cX10_in 7 = .ok (.lload 4, 2) := by decide +kernel
theorem dX10_in_9 : decode cX10_in 9 = .ok (.lcmp, 1) := by decide +kernel
theorem dX10_in_10 : decode cX10_in 10 = .ok (.ifCond .gt 7, 3) := by decide +kernel
theorem dX10_in_13 : decode cX10_in 13 = .ok (.iconst 1, 1) := by decide +kernel
theorem dX10_in_14 : decode cX10_in 14 = .ok (.goto 4, 3) := by decide +kernel
theorem dX10_in_17 : decode cX10_in 17 = .ok (.iconst 0, 1) := by decide +kernel
theorem dX10_in_18 : decode cX10_in 18 = .ok (.ireturn, 1) := by decide +kernel
theorem dX10_size_0 : decode cX10_size 0 = .ok (.iload_n 0, 1) := by decide +kernel
theorem dX10_size_1 : decode cX10_size 1 = .ok (.ifCond .ge 8, 3) := by decide +kernel
theorem dX10_size_4 : decode cX10_size 4 = .ok (.iload_n 0, 1) := by decide +kernel
theorem dX10_size_5 : decode cX10_size 5 = .ok (.ineg, 1) := by decide +kernel
theorem dX10_size_6 : decode cX10_size 6 = .ok (.goto 4, 3) := by decide +kernel
theorem dX10_size_9 : decode cX10_size 9 = .ok (.iload_n 0, 1) := by decide +kernel
theorem dX10_size_10 : decode cX10_size 10 = .ok (.ireturn, 1) := by decide +kernel
theorem dX10_stepX_0 : decode cX10_stepX 0 = .ok (.iload_n 0, 1) := by decide +kernel
theorem dX10_stepX_1 : decode cX10_stepX 1 = .ok (.iconst 2, 1) := by decide +kernel
theorem dX10_stepX_2 : decode cX10_stepX 2 = .ok (.if_icmp .lt 9, 3) := by decide +kernel
theorem dX10_stepX_5 : decode cX10_stepX 5 = .ok (.iload_n 0, 1) := by decide +kernel
theorem dX10_stepX_6 : decode cX10_stepX 6 = .ok (.bipush 7, 2) := by decide +kernel
theorem dX10_stepX_8 : decode cX10_stepX 8 = .ok (.if_icmp .ne 7, 3) := by decide +kernel
theorem dX10_stepX_11 : decode cX10_stepX 11 = .ok (.iconst 1, 1) := by decide +kernel
theorem dX10_stepX_12 : decode cX10_stepX 12 = .ok (.goto 19, 3) := by decide +kernel
theorem dX10_stepX_15 : decode cX10_stepX 15 = .ok (.iload_n 0, 1) := by decide +kernel
theorem dX10_stepX_16 : decode cX10_stepX 16 = .ok (.iconst 2, 1) := by decide +kernel
theorem dX10_stepX_17 : decode cX10_stepX 17 = .ok (.if_icmp .le 13, 3) := by decide +kernel
theorem dX10_stepX_20 : decode cX10_stepX 20 = .ok (.iload_n 0, 1) := by decide +kernel
theorem dX10_stepX_21 : decode cX10_stepX 21 = .ok (.bipush 6, 2) := by decide +kernel
theorem dX10_stepX_23 : decode cX10_stepX 23 = .ok (.if_icmp .ge 7, 3) := by decide +kernel
theorem dX10_stepX_26 : decode cX10_stepX 26 = .ok (.iconst (-1), 1) := by decide +kernel
theorem dX10_stepX_27 : decode cX10_stepX 27 = .ok (.goto 4, 3) := by decide +kernel
theorem dX10_stepX_30 : decode cX10_stepX 30 = .ok (.iconst 0, 1) := by decide +kernel
theorem dX10_stepX_31 : decode cX10_stepX 31 = .ok (.ireturn, 1) := by decide +kernel
theorem dX10_stepY_0 : decode cX10_stepY 0 = .ok (.iload_n 0, 1) := by decide +kernel
theorem dX10_stepY_1 : decode cX10_stepY 1 = .ok (.ifCond .le 12, 3) := by decide +kernel
theorem dX10_stepY_4 : decode cX10_stepY 4 = .ok (.iload_n 0, 1) := by decide +kernel
theorem dX10_stepY_5 : decode cX10_stepY 5 = .ok (.iconst 4, 1) := by decide +kernel
theorem dX10_stepY_6 : decode cX10_stepY 6 = .ok (.if_icmp .ge 7, 3) := by decide +kernel
theorem dX10_stepY_9 : decode cX10_stepY 9 = .ok (.iconst 1, 1) := by decide +kernel
theorem dX10_stepY_10 : decode cX10_stepY 10 = .ok (.goto 13, 3) := by decide +kernel
theorem dX10_stepY_13 : decode cX10_stepY 13 = .ok (.iload_n 0, 1) := by decide +kernel
theorem dX10_stepY_14 : decode cX10_stepY 14 = .ok (.iconst 4, 1) := by decide +kernel
theorem dX10_stepY_15 : decode cX10_stepY 15 = .ok (.if_icmp .le 7, 3) := by decide +kernel
theorem dX10_stepY_18 : decode cX10_stepY 18 = .ok (.iconst (-1), 1) := by decide +kernel
theorem dX10_stepY_19 : decode cX10_stepY 19 = .ok (.goto 4, 3) := by decide +kernel
theorem dX10_stepY_22 : decode cX10_stepY 22 = .ok (.iconst 0, 1) := by decide +kernel
theorem dX10_stepY_23 : decode cX10_stepY 23 = .ok (.ireturn, 1) := by decide +kernel
set_option maxRecDepth 20000 in
theorem ggX10_placeOf_X10_stepY : GoodIn wsX10_placeOf wsX10_stepY := goodIn_r _ [5] rfl (by decide +kernel)
set_option maxRecDepth 20000 in
theorem gX10_placeOf_X10_stepY : GoodIn wsX10_placeOf (va_wsS RX10 55 yX10_stepY wsX10_stepY) := goodIn_app (goodIn_of _ (by decide +kernel)) ggX10_placeOf_X10_stepY
set_option maxRecDepth 20000 in
theorem ggX10_placeOf_X10_stepX : GoodIn wsX10_placeOf wsX10_stepX := goodIn_r _ [8] rfl (by decide +kernel)
set_option maxRecDepth 20000 in
theorem gX10_placeOf_X10_stepX : GoodIn wsX10_placeOf (va_wsS RX10 59 yX10_stepX wsX10_stepX) := goodIn_app (goodIn_of _ (by decide +kernel)) ggX10_placeOf_X10_stepX
theorem dX10_placeOf_0 : decode cX10_placeOf 0 = .ok (.iconst 0, 1) := by decide +kernel
theorem dX10_placeOf_1 : decode cX10_placeOf 1 = .ok (.istore_n 3, 1) := by decide +kernel
theorem dX10_placeOf_2 : decode cX10_placeOf 2 = .ok (.iconst 0, 1) := by decide +kernel
theorem dX10_placeOf_3 : decode cX10_placeOf 3 = .ok (.istore 4, 2) := by decide +kernel
theorem dX10_placeOf_5 : decode cX10_placeOf 5 = .ok (.iload 4, 2) := by decide +kernel
theorem dX10_placeOf_7 : decode cX10_placeOf 7 = .ok (.iload_n 1, 1) := by decide +kernel
theorem dX10_placeOf_8 : decode cX10_placeOf 8 = .ok (.if_icmp .ge 39, 3) := by decide +kernel
theorem dX10_placeOf_11 : decode cX10_placeOf 11 = .ok (.iload_n 3, 1) := by decide +kernel
theorem dX10_placeOf_12 : decode cX10_placeOf 12 = .ok (.iload_n 2, 1) := by decide +kernel
theorem dX10_placeOf_13 : decode cX10_placeOf 13 = .ok (.ifCond .eq 16, 3) := by decide +kernel
theorem dX10_placeOf_16 : decode cX10_placeOf 16 = .ok (.aload_n 0, 1) := by decide +kernel
theorem dX10_placeOf_17 : decode cX10_placeOf 17 = .ok (.getfield 7, 3) := by decide +kernel
theorem dX10_placeOf_20 : decode cX10_placeOf 20 = .ok (.iload 4, 2) := by decide +kernel
theorem dX10_placeOf_22 : decode cX10_placeOf 22 = .ok (.iaload, 1) := by decide +kernel
theorem dX10_placeOf_23 : decode cX10_placeOf 23 = .ok (.invokestatic 55, 3) := by decide +kernel
theorem dX10_placeOf_26 : decode cX10_placeOf 26 = .ok (.goto 13, 3) := by decide +kernel
theorem dX10_placeOf_29 : decode cX10_placeOf 29 = .ok (.aload_n 0, 1) := by decide +kernel
theorem dX10_placeOf_30 : decode cX10_placeOf 30 = .ok (.getfield 7, 3) := by decide +kernel
theorem dX10_placeOf_33 : decode cX10_placeOf 33 = .ok (.iload 4, 2) := by decide +kernel
theorem dX10_placeOf_35 : decode cX10_placeOf 35 = .ok (.iaload, 1) := by decide +kernel
theorem dX10_placeOf_36 : decode cX10_placeOf 36 = .ok (.invokestatic 59, 3) := by decide +kernel
theorem dX10_placeOf_39 : decode cX10_placeOf 39 = .ok (.iadd, 1) := by decide +kernel
theorem dX10_placeOf_40 : decode cX10_placeOf 40 = .ok (.istore_n 3, 1) := by decide +kernel
theorem dX10_placeOf_41 : decode cX10_placeOf 41 = .ok (.iinc 4 1, 3) := by decide +kernel
theorem dX10_placeOf_44 : decode cX10_placeOf 44 = .ok (.goto (-39), 3) := by decide +kernel
theorem dX10_placeOf_47 : decode cX10_placeOf 47 = .ok (.iload_n 3, 1) := by decide +kernel
theorem dX10_placeOf_48 : decode cX10_placeOf 48 = .ok (.ireturn, 1) := by decide +kernel
set_option maxRecDepth 20000 in
theorem ggX10_step_X10_in : GoodIn wsX10_step wsX10_in := goodIn_r _ [8] rfl (by decide +kernel)
set_option maxRecDepth 20000 in
theorem gX10_step_X10_in : GoodIn wsX10_step (va_wsS RX10 64 yX10_in wsX10_in) := goodIn_app (goodIn_of _ (by decide +kernel)) ggX10_step_X10_in
theorem dX10_step_0 : decode cX10_step 0 = .ok (.aload_n 0, 1) := by decide +kernel
theorem dX10_step_1 : decode cX10_step 1 = .ok (.iconst 0, 1) := by decide +kernel
theorem dX10_step_2 : decode cX10_step 2 = .ok (.putfield 52, 3) := by decide +kernel
theorem dX10_step_5 : decode cX10_step 5 = .ok (.iload_n 1, 1) := by decide +kernel
theorem dX10_step_6 : decode cX10_step 6 = .ok (.i2l, 1) := by decide +kernel
theorem dX10_step_7 : decode cX10_step 7 = .ok (.lconst 0, 1) := by decide +kernel
theorem dX10_step_8 : decode cX10_step 8 = .ok (.ldc2_w 62, 3) := by decide +kernel
theorem dX10_step_11 : decode cX10_step 11 = .ok (.invokestatic 64, 3) := by decide +kernel
theorem dX10_step_14 : decode cX10_step 14 = .ok (.ifCond .ne 7, 3) := by decide +kernel
theorem dX10_step_17 : decode cX10_step 17 = .ok (.sipush (-1002), 3) := by decide +kernel
theorem dX10_step_20 : decode cX10_step 20 = .ok (.ireturn, 1) := by decide +kernel
theorem dX10_step_21 : decode cX10_step 21 = .ok (.aload_n 0, 1) := by decide +kernel
theorem dX10_step_22 : decode cX10_step 22 = .ok (.getfield 68, 3) := by decide +kernel
theorem dX10_step_25 : decode cX10_step 25 = .ok (.bipush 60, 2) := by decide +kernel
theorem dX10_step_27 : decode cX10_step 27 = .ok (.if_icmp .ne 7, 3) := by decide +kernel
theorem dX10_step_30 : decode cX10_step 30 = .ok (.sipush (-1004), 3) := by decide +kernel
theorem dX10_step_33 : decode cX10_step 33 = .ok (.ireturn, 1) := by decide +kernel
theorem dX10_step_34 : decode cX10_step 34 = .ok (.aload_n 0, 1) := by decide +kernel
theorem dX10_step_35 : decode cX10_step 35 = .ok (.getfield 7, 3) := by decide +kernel
theorem dX10_step_38 : decode cX10_step 38 = .ok (.aload_n 0, 1) := by decide +kernel
theorem dX10_step_39 : decode cX10_step 39 = .ok (.getfield 68, 3) := by decide +kernel
theorem dX10_step_42 : decode cX10_step 42 = .ok (.iload_n 1, 1) := by decide +kernel
theorem dX10_step_43 : decode cX10_step 43 = .ok (.iastore, 1) := by decide +kernel
theorem dX10_step_44 : decode cX10_step 44 = .ok (.aload_n 0, 1) := by decide +kernel
theorem dX10_step_45 : decode cX10_step 45 = .ok (.dup, 1) := by decide +kernel
theorem dX10_step_46 : decode cX10_step 46 = .ok (.getfield 68, 3) := by decide +kernel
theorem dX10_step_49 : decode cX10_step 49 = .ok (.iconst 1, 1) := by decide +kernel
theorem dX10_step_50 : decode cX10_step 50 = .ok (.iadd, 1) := by decide +kernel
theorem dX10_step_51 : decode cX10_step 51 = .ok (.putfield 68, 3) := by decide +kernel
theorem dX10_step_54 : decode cX10_step 54 = .ok (.aload_n 0, 1) := by decide +kernel
theorem dX10_step_55 : decode cX10_step 55 = .ok (.getfield 68, 3) := by decide +kernel
theorem dX10_step_58 : decode cX10_step 58 = .ok (.ireturn, 1) := by decide +kernel
set_option maxRecDepth 20000 in
theorem ggX10_back_X10_in : GoodIn wsX10_back wsX10_in := goodIn_r _ [7] rfl (by decide +kernel)
set_option maxRecDepth 20000 in
theorem gX10_back_X10_in : GoodIn wsX10_back (va_wsS RX10 64 yX10_in wsX10_in) := goodIn_app (goodIn_of _ (by decide +kernel)) ggX10_back_X10_in
theorem dX10_back_0 : decode cX10_back 0 = .ok (.aload_n 0, 1) := by decide +kernel
theorem dX10_back_1 : decode cX10_back 1 = .ok (.iconst 0, 1) := by decide +kernel
theorem dX10_back_2 : decode cX10_back 2 = .ok (.putfield 52, 3) := by decide +kernel
theorem dX10_back_5 : decode cX10_back 5 = .ok (.iload_n 1, 1) := by decide +kernel
theorem dX10_back_6 : decode cX10_back 6 = .ok (.i2l, 1) := by decide +kernel
theorem dX10_back_7 : decode cX10_back 7 = .ok (.lconst 1, 1) := by decide +kernel
theorem dX10_back_8 : decode cX10_back 8 = .ok (.ldc2_w 71, 3) := by decide +kernel
theorem dX10_back_11 : decode cX10_back 11 = .ok (.invokestatic 64, 3) := by decide +kernel
theorem dX10_back_14 : decode cX10_back 14 = .ok (.ifCond .ne 7, 3) := by decide +kernel
theorem dX10_back_17 : decode cX10_back 17 = .ok (.sipush (-1002), 3) := by decide +kernel
theorem dX10_back_20 : decode cX10_back 20 = .ok (.ireturn, 1) := by decide +kernel
theorem dX10_back_21 : decode cX10_back 21 = .ok (.iload_n 1, 1) := by decide +kernel
theorem dX10_back_22 : decode cX10_back 22 = .ok (.aload_n 0, 1) := by decide +kernel
theorem dX10_back_23 : decode cX10_back 23 = .ok (.getfield 68, 3) := by decide +kernel
theorem dX10_back_26 : decode cX10_back 26 = .ok (.if_icmp .le 7, 3) := by decide +kernel
theorem dX10_back_29 : decode cX10_back 29 = .ok (.sipush (-1003), 3) := by decide +kernel
theorem dX10_back_32 : decode cX10_back 32 = .ok (.ireturn, 1) := by decide +kernel
theorem dX10_back_33 : decode cX10_back 33 = .ok (.aload_n 0, 1) := by decide +kernel
theorem dX10_back_34 : decode cX10_back 34 = .ok (.dup, 1) := by decide +kernel
theorem dX10_back_35 : decode cX10_back 35 = .ok (.getfield 68, 3) := by decide +kernel
theorem dX10_back_38 : decode cX10_back 38 = .ok (.iload_n 1, 1) := by decide +kernel
theorem dX10_back_39 : decode cX10_back 39 = .ok (.isub, 1) := by decide +kernel
theorem dX10_back_40 : decode cX10_back 40 = .ok (.putfield 68, 3) := by decide +kernel
theorem dX10_back_43 : decode cX10_back 43 = .ok (.aload_n 0, 1) := by decide +kernel
theorem dX10_back_44 : decode cX10_back 44 = .ok (.getfield 68, 3) := by decide +kernel
theorem dX10_back_47 : decode cX10_back 47 = .ok (.ireturn, 1) := by decide +kernel
set_option maxRecDepth 20000 in
theorem ggX10_way_X10_in : GoodIn wsX10_way wsX10_in := goodIn_r _ [7] rfl (by decide +kernel)
set_option maxRecDepth 20000 in
theorem gX10_way_X10_in : GoodIn wsX10_way (va_wsS RX10 64 yX10_in wsX10_in) := goodIn_app (goodIn_of _ (by decide +kernel)) ggX10_way_X10_in
theorem dX10_way_0 : decode cX10_way 0 = .ok (.aload_n 0, 1) := by decide +kernel
theorem dX10_way_1 : decode cX10_way 1 = .ok (.iconst 0, 1) := by decide +kernel
theorem dX10_way_2 : decode cX10_way 2 = .ok (.putfield 52, 3) := by decide +kernel
theorem dX10_way_5 : decode cX10_way 5 = .ok (.iload_n 1, 1) := by decide +kernel
theorem dX10_way_6 : decode cX10_way 6 = .ok (.i2l, 1) := by decide +kernel
theorem dX10_way_7 : decode cX10_way 7 = .ok (.lconst 0, 1) := by decide +kernel
theorem dX10_way_8 : decode cX10_way 8 = .ok (.aload_n 0, 1) := by decide +kernel
theorem dX10_way_9 : decode cX10_way 9 = .ok (.getfield 68, 3) := by decide +kernel
theorem dX10_way_12 : decode cX10_way 12 = .ok (.iconst 1, 1) := by decide +kernel
theorem dX10_way_13 : decode cX10_way 13 = .ok (.isub, 1) := by decide +kernel
theorem dX10_way_14 : decode cX10_way 14 = .ok (.i2l, 1) := by decide +kernel
theorem dX10_way_15 : decode cX10_way 15 = .ok (.invokestatic 64, 3) := by decide +kernel
theorem dX10_way_18 : decode cX10_way 18 = .ok (.ifCond .eq 12, 3) := by decide +kernel
theorem dX10_way_21 : decode cX10_way 21 = .ok (.aload_n 0, 1) := by decide +kernel
theorem dX10_way_22 : decode cX10_way 22 = .ok (.getfield 7, 3) := by decide +kernel
theorem dX10_way_25 : decode cX10_way 25 = .ok (.iload_n 1, 1) := by decide +kernel
theorem dX10_way_26 : decode cX10_way 26 = .ok (.iaload, 1) := by decide +kernel
theorem dX10_way_27 : decode cX10_way 27 = .ok (.goto 6, 3) := by decide +kernel
theorem dX10_way_30 : decode cX10_way 30 = .ok (.sipush (-1001), 3) := by decide +kernel
theorem dX10_way_33 : decode cX10_way 33 = .ok (.ireturn, 1) := by decide +kernel
set_option maxRecDepth 20000 in
theorem ggX10_noPlace_X10_in : GoodIn wsX10_noPlace wsX10_in := goodIn_r _ [5] rfl (by decide +kernel)
set_option maxRecDepth 20000 in
theorem gX10_noPlace_X10_in : GoodIn wsX10_noPlace (va_wsS RX10 64 yX10_in wsX10_in) := goodIn_app (goodIn_of _ (by decide +kernel)) ggX10_noPlace_X10_in
theorem dX10_noPlace_0 : decode cX10_noPlace 0 = .ok (.iload_n 1, 1) := by decide +kernel
theorem dX10_noPlace_1 : decode cX10_noPlace 1 = .ok (.i2l, 1) := by decide +kernel
theorem dX10_noPlace_2 : decode cX10_noPlace 2 = .ok (.lconst 0, 1) := by decide +kernel
theorem dX10_noPlace_3 : decode cX10_noPlace 3 = .ok (.aload_n 0, 1) := by decide +kernel
theorem dX10_noPlace_4 : decode cX10_noPlace 4 = .ok (.getfield 68, 3) := by decide +kernel
theorem dX10_noPlace_7 : decode cX10_noPlace 7 = .ok (.i2l, 1) := by decide +kernel
theorem dX10_noPlace_8 : decode cX10_noPlace 8 = .ok (.invokestatic 64, 3) := by decide +kernel
theorem dX10_noPlace_11 : decode cX10_noPlace 11 = .ok (.ifCond .ne 7, 3) := by decide +kernel
theorem dX10_noPlace_14 : decode cX10_noPlace 14 = .ok (.iconst 1, 1) := by decide +kernel
theorem dX10_noPlace_15 : decode cX10_noPlace 15 = .ok (.goto 4, 3) := by decide +kernel
theorem dX10_noPlace_18 : decode cX10_noPlace 18 = .ok (.iconst 0, 1) := by decide +kernel
theorem dX10_noPlace_19 : decode cX10_noPlace 19 = .ok (.ireturn, 1) := by decide +kernel
set_option maxRecDepth 20000 in
theorem ggX10_place_X10_noPlace : GoodIn wsX10_place wsX10_noPlace := goodIn_r _ [6, 7, 8, 9, 5, 10, 22, 23, 24, 25, 26, 27, 28, 29, 30, 31, 32, 33, 34, 35, 36, 37, 38, 39] rfl (by decide +kernel)
set_option maxRecDepth 20000 in
theorem gX10_place_X10_noPlace : GoodIn wsX10_place (wsV RX10 73 RX10 yX10_noPlace wsX10_noPlace) := goodIn_app (goodIn_of _ (by decide +kernel)) ggX10_place_X10_noPlace
set_option maxRecDepth 20000 in
theorem ggX10_place_X10_placeOf : GoodIn wsX10_place wsX10_placeOf := goodIn_r _ [14, 15, 16, 17, 5, 18, 19, 20, 21, 22, 23, 24, 25, 26, 27, 28, 29, 30, 31, 32, 33, 34, 35, 36, 37, 38, 39] rfl (by decide +kernel)
set_option maxRecDepth 20000 in
theorem gX10_place_X10_placeOf : GoodIn wsX10_place (wsV RX10 77 RX10 yX10_placeOf wsX10_placeOf) := goodIn_app (goodIn_of _ (by decide +kernel)) ggX10_place_X10_placeOf
theorem dX10_place_0 : decode cX10_place 0 = .ok (.aload_n 0, 1) := by decide +kernel
theorem dX10_place_1 : decode cX10_place 1 = .ok (.iconst 0, 1) := by decide +kernel
theorem dX10_place_2 : decode cX10_place 2 = .ok (.putfield 52, 3) := by decide +kernel
theorem dX10_place_5 : decode cX10_place 5 = .ok (.aload_n 0, 1) := by decide +kernel
theorem dX10_place_6 : decode cX10_place 6 = .ok (.iload_n 1, 1) := by decide +kernel
theorem dX10_place_7 : decode cX10_place 7 = .ok (.invokevirtual 73, 3) := by decide +kernel
theorem dX10_place_10 : decode cX10_place 10 = .ok (.ifCond .eq 9, 3) := by decide +kernel
theorem dX10_place_13 : decode cX10_place 13 = .ok (.sipush (-1001), 3) := by decide +kernel
theorem dX10_place_16 : decode cX10_place 16 = .ok (.goto 9, 3) := by decide +kernel
theorem dX10_place_19 : decode cX10_place 19 = .ok (.aload_n 0, 1) := by decide +kernel
theorem dX10_place_20 : decode cX10_place 20 = .ok (.iload_n 1, 1) := by decide +kernel
theorem dX10_place_21 : decode cX10_place 21 = .ok (.iload_n 2, 1) := by decide +kernel
theorem dX10_place_22 : decode cX10_place 22 = .ok (.invokevirtual 77, 3) := by decide +kernel
theorem dX10_place_25 : decode cX10_place 25 = .ok (.ireturn, 1) := by decide +kernel
theorem dX10_near_0 : decode cX10_near 0 = .ok (.iconst 2, 1) := by decide +kernel
theorem dX10_near_1 : decode cX10_near 1 = .ok (.iload_n 0, 1) := by decide +kernel
theorem dX10_near_2 : decode cX10_near 2 = .ok (.imul, 1) := by decide +kernel
theorem dX10_near_3 : decode cX10_near 3 = .ok (.iload_n 1, 1) := by decide +kernel
theorem dX10_near_4 : decode cX10_near 4 = .ok (.iadd, 1) := by decide +kernel
theorem dX10_near_5 : decode cX10_near 5 = .ok (.istore_n 2, 1) := by decide +kernel
theorem dX10_near_6 : decode cX10_near 6 = .ok (.iconst 2, 1) := by decide +kernel
theorem dX10_near_7 : decode cX10_near 7 = .ok (.iload_n 1, 1) := by decide +kernel
theorem dX10_near_8 : decode cX10_near 8 = .ok (.imul, 1) := by decide +kernel
theorem dX10_near_9 : decode cX10_near 9 = .ok (.istore_n 3, 1) := by decide +kernel
theorem dX10_near_10 : decode cX10_near 10 = .ok (.iload_n 2, 1) := by decide +kernel
theorem dX10_near_11 : decode cX10_near 11 = .ok (.ifCond .lt 9, 3) := by decide +kernel
theorem dX10_near_14 : decode cX10_near 14 = .ok (.iload_n 2, 1) := by decide +kernel
theorem dX10_near_15 : decode cX10_near 15 = .ok (.iload_n 3, 1) := by decide +kernel
theorem dX10_near_16 : decode cX10_near 16 = .ok (.idiv, 1) := by decide +kernel
theorem dX10_near_17 : decode cX10_near 17 = .ok (.goto 11, 3) := by decide +kernel
