theorem dX5_init_0 : decode cX5_init 0 = .ok (.aload_n 0, 1) := by decide +kernel
theorem dX5_init_1 : decode cX5_init 1 = .ok (.invokespecial 3, 3) := by decide +kernel
theorem dX5_init_4 : decode cX5_init 4 = .ok (.aload_n 0, 1) := by decide +kernel
theorem dX5_init_5 : decode cX5_init 5 = .ok (.bipush 12, 2) := by decide +kernel
theorem dX5_init_7 : decode cX5_init 7 = .ok (.newarray .int, 2) := by decide +kernel
theorem dX5_init_9 : decode cX5_init 9 = .ok (.putfield 9, 3) := by decide +kernel
theorem dX5_init_12 : decode cX5_init 12 = .ok (.aload_n 0, 1) := by decide +kernel
theorem dX5_init_13 : decode cX5_init 13 = .ok (.bipush 13, 2) := by decide +kernel
theorem dX5_init_15 : decode cX5_init 15 = .ok (.newarray .long, 2) := by decide +kernel
theorem dX5_init_17 : decode cX5_init 17 = .ok (.putfield 15, 3) := by decide +kernel
theorem dX5_init_20 : decode cX5_init 20 = .ok (.aload_n 0, 1) := by decide +kernel
theorem dX5_init_21 : decode cX5_init 21 = .ok (.bipush 13, 2) := by decide +kernel
theorem dX5_init_23 : decode cX5_init 23 = .ok (.newarray .long, 2) := by decide +kernel
theorem dX5_init_25 : decode cX5_init 25 = .ok (.putfield 19, 3) := by decide +kernel
theorem dX5_init_28 : decode cX5_init 28 = .ok (.return_, 1) := by decide +kernel
set_option maxRecDepth 20000 in
theorem ggX5_seek_J7_fill_d0a16 : GoodIn wsX5_seek wsJ7_fill_d0a16 := goodIn_r _ [10] (by decide +kernel) (by decide +kernel)
set_option maxRecDepth 20000 in
theorem gX5_seek_J7_fill_d0a16 : GoodIn wsX5_seek (va_wsS RX5 33 yJ7_fill_d0a16 wsJ7_fill_d0a16) := goodIn_app (goodIn_of _ (by decide +kernel)) ggX5_seek_J7_fill_d0a16
set_option maxRecDepth 20000 in
theorem ggX5_seek_X7_listNumbers : GoodIn wsX5_seek wsX7_listNumbers := goodIn_r _ [13, 14, 15, 12, 16, 17, 18, 19] (by decide +kernel) (by decide +kernel)
set_option maxRecDepth 20000 in
theorem gX5_seek_X7_listNumbers_n39 : GoodIn wsX5_seek (wsX7_listNumbers) := ggX5_seek_X7_listNumbers
set_option maxRecDepth 20000 in
theorem ggX5_seek_J6_numberOfTrailingZeros_0f7a4 : GoodIn wsX5_seek wsJ6_numberOfTrailingZeros_0f7a4 := goodIn_r _ [23, 24] (by decide +kernel) (by decide +kernel)
set_option maxRecDepth 20000 in
theorem gX5_seek_J6_numberOfTrailingZeros_0f7a4 : GoodIn wsX5_seek (va_wsS RX5 43 yJ6_numberOfTrailingZeros_0f7a4 wsJ6_numberOfTrailingZeros_0f7a4) := goodIn_app (goodIn_of _ (by decide +kernel)) ggX5_seek_J6_numberOfTrailingZeros_0f7a4
set_option maxRecDepth 20000 in
theorem ggX5_seek_X5_addUp : GoodIn wsX5_seek wsX5_addUp := goodIn_r _ [29, 6, 4, 2, 5, 30, 31, 32, 33, 57, 58, 59, 60, 61, 62, 63, 64] (by decide +kernel) (by decide +kernel)
set_option maxRecDepth 20000 in
theorem gX5_seek_X5_addUp : GoodIn wsX5_seek (wsV RX5 49 RX5 yX5_addUp wsX5_addUp) := goodIn_app (goodIn_of _ (by decide +kernel)) ggX5_seek_X5_addUp
set_option maxRecDepth 20000 in
theorem ggX5_seek_J13_bitCount_95d88 : GoodIn wsX5_seek wsJ13_bitCount_95d88 := goodIn_r _ [37, 38, 39, 40] (by decide +kernel) (by decide +kernel)
set_option maxRecDepth 20000 in
theorem gX5_seek_J13_bitCount_95d88 : GoodIn wsX5_seek (va_wsS RX5 53 yJ13_bitCount_95d88 wsJ13_bitCount_95d88) := goodIn_app (goodIn_of _ (by decide +kernel)) ggX5_seek_J13_bitCount_95d88
set_option maxRecDepth 20000 in
theorem ggX5_seek_X5_judge : GoodIn wsX5_seek wsX5_judge := goodIn_r _ [44, 45, 46, 3, 47, 48, 22, 49, 50, 51, 52, 53, 54, 55, 28, 56, 57, 58, 59, 60, 61, 62, 63, 64] (by decide +kernel) (by decide +kernel)
set_option maxRecDepth 20000 in
theorem gX5_seek_X5_judge : GoodIn wsX5_seek (wsV RX5 59 RX5 yX5_judge wsX5_judge) := goodIn_app (goodIn_of _ (by decide +kernel)) ggX5_seek_X5_judge
theorem dX5_seek_0 : decode cX5_seek 0 = .ok (.lload_n 1, 1) := by decide +kernel
theorem dX5_seek_1 : decode cX5_seek 1 = .ok (.aload_n 0, 1) := by decide +kernel
theorem dX5_seek_2 : decode cX5_seek 2 = .ok (.getfield 22, 3) := by decide +kernel
theorem dX5_seek_5 : decode cX5_seek 5 = .ok (.lcmp, 1) := by decide +kernel
theorem dX5_seek_6 : decode cX5_seek 6 = .ok (.ifCond .ne 13, 3) := by decide +kernel
theorem dX5_seek_9 : decode cX5_seek 9 = .ok (.lload_n 3, 1) := by decide +kernel
theorem dX5_seek_10 : decode cX5_seek 10 = .ok (.aload_n 0, 1) := by decide +kernel
theorem dX5_seek_11 : decode cX5_seek 11 = .ok (.getfield 26, 3) := by decide +kernel
theorem dX5_seek_14 : decode cX5_seek 14 = .ok (.lcmp, 1) := by decide +kernel
theorem dX5_seek_15 : decode cX5_seek 15 = .ok (.ifCond .ne 4, 3) := by decide +kernel
theorem dX5_seek_18 : decode cX5_seek 18 = .ok (.return_, 1) := by decide +kernel
theorem dX5_seek_19 : decode cX5_seek 19 = .ok (.aload_n 0, 1) := by decide +kernel
theorem dX5_seek_20 : decode cX5_seek 20 = .ok (.lload_n 1, 1) := by decide +kernel
theorem dX5_seek_21 : decode cX5_seek 21 = .ok (.putfield 22, 3) := by decide +kernel
theorem dX5_seek_24 : decode cX5_seek 24 = .ok (.aload_n 0, 1) := by decide +kernel
theorem dX5_seek_25 : decode cX5_seek 25 = .ok (.lload_n 3, 1) := by decide +kernel
theorem dX5_seek_26 : decode cX5_seek 26 = .ok (.putfield 26, 3) := by decide +kernel
theorem dX5_seek_29 : decode cX5_seek 29 = .ok (.aload_n 0, 1) := by decide +kernel
theorem dX5_seek_30 : decode cX5_seek 30 = .ok (.iconst 0, 1) := by decide +kernel
theorem dX5_seek_31 : decode cX5_seek 31 = .ok (.putfield 29, 3) := by decide +kernel
theorem dX5_seek_34 : decode cX5_seek 34 = .ok (.aload_n 0, 1) := by decide +kernel
theorem dX5_seek_35 : decode cX5_seek 35 = .ok (.getfield 15, 3) := by decide +kernel
theorem dX5_seek_38 : decode cX5_seek 38 = .ok (.lconst 0, 1) := by decide +kernel
theorem dX5_seek_39 : decode cX5_seek 39 = .ok (.invokestatic 33, 3) := by decide +kernel
theorem dX5_seek_42 : decode cX5_seek 42 = .ok (.aload_n 0, 1) := by decide +kernel
theorem dX5_seek_43 : decode cX5_seek 43 = .ok (.getfield 19, 3) := by decide +kernel
theorem dX5_seek_46 : decode cX5_seek 46 = .ok (.lconst 0, 1) := by decide +kernel
theorem dX5_seek_47 : decode cX5_seek 47 = .ok (.invokestatic 33, 3) := by decide +kernel
theorem dX5_seek_50 : decode cX5_seek 50 = .ok (.lload_n 1, 1) := by decide +kernel
theorem dX5_seek_51 : decode cX5_seek 51 = .ok (.aload_n 0, 1) := by decide +kernel
theorem dX5_seek_52 : decode cX5_seek 52 = .ok (.getfield 9, 3) := by decide +kernel
theorem dX5_seek_55 : decode cX5_seek 55 = .ok (.invokestatic 39, 3) := by decide +kernel
theorem dX5_seek_58 : decode cX5_seek 58 = .ok (.istore 5, 2) := by decide +kernel
theorem dX5_seek_60 : decode cX5_seek 60 = .ok (.iconst 1, 1) := by decide +kernel
theorem dX5_seek_61 : decode cX5_seek 61 = .ok (.istore 6, 2) := by decide +kernel
theorem dX5_seek_63 : decode cX5_seek 63 = .ok (.iload 6, 2) := by decide +kernel
theorem dX5_seek_65 : decode cX5_seek 65 = .ok (.iconst 1, 1) := by decide +kernel
theorem dX5_seek_66 : decode cX5_seek 66 = .ok (.iload 5, 2) := by decide +kernel
theorem dX5_seek_68 : decode cX5_seek 68 = .ok (.ishl, 1) := by decide +kernel
theorem dX5_seek_69 : decode cX5_seek 69 = .ok (.if_icmp .ge 43, 3) := by decide +kernel
theorem dX5_seek_72 : decode cX5_seek 72 = .ok (.aload_n 0, 1) := by decide +kernel
theorem dX5_seek_73 : decode cX5_seek 73 = .ok (.iload 6, 2) := by decide +kernel
theorem dX5_seek_75 : decode cX5_seek 75 = .ok (.invokestatic 43, 3) := by decide +kernel
theorem dX5_seek_78 : decode cX5_seek 78 = .ok (.invokevirtual 49, 3) := by decide +kernel
theorem dX5_seek_81 : decode cX5_seek 81 = .ok (.aload_n 0, 1) := by decide +kernel
theorem dX5_seek_82 : decode cX5_seek 82 = .ok (.iload 6, 2) := by decide +kernel
theorem dX5_seek_84 : decode cX5_seek 84 = .ok (.aload_n 0, 1) := by decide +kernel
theorem dX5_seek_85 : decode cX5_seek 85 = .ok (.getfield 15, 3) := by decide +kernel
theorem dX5_seek_88 : decode cX5_seek 88 = .ok (.iconst 0, 1) := by decide +kernel
theorem dX5_seek_89 : decode cX5_seek 89 = .ok (.laload, 1) := by decide +kernel
theorem dX5_seek_90 : decode cX5_seek 90 = .ok (.invokestatic 53, 3) := by decide +kernel
theorem dX5_seek_93 : decode cX5_seek 93 = .ok (.aload_n 0, 1) := by decide +kernel
theorem dX5_seek_94 : decode cX5_seek 94 = .ok (.getfield 19, 3) := by decide +kernel
theorem dX5_seek_97 : decode cX5_seek 97 = .ok (.iconst 0, 1) := by decide +kernel
theorem dX5_seek_98 : decode cX5_seek 98 = .ok (.laload, 1) := by decide +kernel
theorem dX5_seek_99 : decode cX5_seek 99 = .ok (.invokestatic 53, 3) := by decide +kernel
theorem dX5_seek_102 : decode cX5_seek 102 = .ok (.iadd, 1) := by decide +kernel
theorem dX5_seek_103 : decode cX5_seek 103 = .ok (.invokevirtual 59, 3) := by decide +kernel
theorem dX5_seek_106 : decode cX5_seek 106 = .ok (.iinc 6 1, 3) := by decide +kernel
theorem dX5_seek_109 : decode cX5_seek 109 = .ok (.goto (-46), 3) := by decide +kernel
theorem dX5_seek_112 : decode cX5_seek 112 = .ok (.return_, 1) := by decide +kernel
set_option maxRecDepth 20000 in
theorem ggX5_addUp_X6_carried : GoodIn wsX5_addUp wsX6_carried := goodIn_r _ [8] (by decide +kernel) (by decide +kernel)
set_option maxRecDepth 20000 in
theorem gX5_addUp_X6_carried : GoodIn wsX5_addUp (va_wsS RX5 63 yX6_carried wsX6_carried) := goodIn_app (goodIn_of _ (by decide +kernel)) ggX5_addUp_X6_carried
theorem dX5_addUp_0 : decode cX5_addUp 0 = .ok (.iload_n 1, 1) := by decide +kernel
theorem dX5_addUp_1 : decode cX5_addUp 1 = .ok (.ifCond .lt 9, 3) := by decide +kernel
theorem dX5_addUp_4 : decode cX5_addUp 4 = .ok (.iload_n 1, 1) := by decide +kernel
theorem dX5_addUp_5 : decode cX5_addUp 5 = .ok (.bipush 12, 2) := by decide +kernel
theorem dX5_addUp_7 : decode cX5_addUp 7 = .ok (.if_icmp .lt 4, 3) := by decide +kernel
theorem dX5_addUp_10 : decode cX5_addUp 10 = .ok (.return_, 1) := by decide +kernel
theorem dX5_addUp_11 : decode cX5_addUp 11 = .ok (.aload_n 0, 1) := by decide +kernel
theorem dX5_addUp_12 : decode cX5_addUp 12 = .ok (.getfield 9, 3) := by decide +kernel
theorem dX5_addUp_15 : decode cX5_addUp 15 = .ok (.iload_n 1, 1) := by decide +kernel
theorem dX5_addUp_16 : decode cX5_addUp 16 = .ok (.iaload, 1) := by decide +kernel
theorem dX5_addUp_17 : decode cX5_addUp 17 = .ok (.istore_n 2, 1) := by decide +kernel
theorem dX5_addUp_18 : decode cX5_addUp 18 = .ok (.aload_n 0, 1) := by decide +kernel
theorem dX5_addUp_19 : decode cX5_addUp 19 = .ok (.getfield 15, 3) := by decide +kernel
theorem dX5_addUp_22 : decode cX5_addUp 22 = .ok (.iload_n 1, 1) := by decide +kernel
theorem dX5_addUp_23 : decode cX5_addUp 23 = .ok (.iconst 1, 1) := by decide +kernel
theorem dX5_addUp_24 : decode cX5_addUp 24 = .ok (.iadd, 1) := by decide +kernel
theorem dX5_addUp_25 : decode cX5_addUp 25 = .ok (.laload, 1) := by decide +kernel
theorem dX5_addUp_26 : decode cX5_addUp 26 = .ok (.aload_n 0, 1) := by decide +kernel
theorem dX5_addUp_27 : decode cX5_addUp 27 = .ok (.getfield 26, 3) := by decide +kernel
theorem dX5_addUp_30 : decode cX5_addUp 30 = .ok (.iload_n 2, 1) := by decide +kernel
theorem dX5_addUp_31 : decode cX5_addUp 31 = .ok (.lshl, 1) := by decide +kernel
theorem dX5_addUp_32 : decode cX5_addUp 32 = .ok (.lor, 1) := by decide +kernel
theorem dX5_addUp_33 : decode cX5_addUp 33 = .ok (.lstore_n 3, 1) := by decide +kernel
theorem dX5_addUp_34 : decode cX5_addUp 34 = .ok (.aload_n 0, 1) := by decide +kernel
theorem dX5_addUp_35 : decode cX5_addUp 35 = .ok (.getfield 19, 3) := by decide +kernel
theorem dX5_addUp_38 : decode cX5_addUp 38 = .ok (.iload_n 1, 1) := by decide +kernel
theorem dX5_addUp_39 : decode cX5_addUp 39 = .ok (.iconst 1, 1) := by decide +kernel
theorem dX5_addUp_40 : decode cX5_addUp 40 = .ok (.iadd, 1) := by decide +kernel
theorem dX5_addUp_41 : decode cX5_addUp 41 = .ok (.laload, 1) := by decide +kernel
theorem dX5_addUp_42 : decode cX5_addUp 42 = .ok (.aload_n 0, 1) := by decide +kernel
theorem dX5_addUp_43 : decode cX5_addUp 43 = .ok (.getfield 26, 3) := by decide +kernel
theorem dX5_addUp_46 : decode cX5_addUp 46 = .ok (.iload_n 2, 1) := by decide +kernel
theorem dX5_addUp_47 : decode cX5_addUp 47 = .ok (.invokestatic 63, 3) := by decide +kernel
theorem dX5_addUp_50 : decode cX5_addUp 50 = .ok (.lor, 1) := by decide +kernel
theorem dX5_addUp_51 : decode cX5_addUp 51 = .ok (.lstore 5, 2) := by decide +kernel
theorem dX5_addUp_53 : decode cX5_addUp 53 = .ok (.iconst 0, 1) := by decide +kernel
theorem dX5_addUp_54 : decode cX5_addUp 54 = .ok (.istore 7, 2) := by decide +kernel
theorem dX5_addUp_56 : decode cX5_addUp 56 = .ok (.iload 7, 2) := by decide +kernel
theorem dX5_addUp_58 : decode cX5_addUp 58 = .ok (.iload_n 1, 1) := by decide +kernel
theorem dX5_addUp_59 : decode cX5_addUp 59 = .ok (.if_icmp .gt 26, 3) := by decide +kernel
theorem dX5_addUp_62 : decode cX5_addUp 62 = .ok (.aload_n 0, 1) := by decide +kernel
theorem dX5_addUp_63 : decode cX5_addUp 63 = .ok (.getfield 15, 3) := by decide +kernel
theorem dX5_addUp_66 : decode cX5_addUp 66 = .ok (.iload 7, 2) := by decide +kernel
theorem dX5_addUp_68 : decode cX5_addUp 68 = .ok (.lload_n 3, 1) := by decide +kernel
theorem dX5_addUp_69 : decode cX5_addUp 69 = .ok (.lastore, 1) := by decide +kernel
theorem dX5_addUp_70 : decode cX5_addUp 70 = .ok (.aload_n 0, 1) := by decide +kernel
theorem dX5_addUp_71 : decode cX5_addUp 71 = .ok (.getfield 19, 3) := by decide +kernel
theorem dX5_addUp_74 : decode cX5_addUp 74 = .ok (.iload 7, 2) := by decide +kernel
theorem dX5_addUp_76 : decode cX5_addUp 76 = .ok (.lload 5, 2) := by decide +kernel
theorem dX5_addUp_78 : decode cX5_addUp 78 = .ok (.lastore, 1) := by decide +kernel
theorem dX5_addUp_79 : decode cX5_addUp 79 = .ok (.iinc 7 1, 3) := by decide +kernel
theorem dX5_addUp_82 : decode cX5_addUp 82 = .ok (.goto (-26), 3) := by decide +kernel
theorem dX5_addUp_85 : decode cX5_addUp 85 = .ok (.return_, 1) := by decide +kernel
set_option maxRecDepth 20000 in
theorem ggX5_judge_J6_bitCount_0f7a4 : GoodIn wsX5_judge wsJ6_bitCount_0f7a4 := goodIn_r _ [7, 8, 9, 10] (by decide +kernel) (by decide +kernel)
set_option maxRecDepth 20000 in
theorem gX5_judge_J6_bitCount_0f7a4 : GoodIn wsX5_judge (va_wsS RX5 69 yJ6_bitCount_0f7a4 wsJ6_bitCount_0f7a4) := goodIn_app (goodIn_of _ (by decide +kernel)) ggX5_judge_J6_bitCount_0f7a4
set_option maxRecDepth 20000 in
theorem ggX5_judge_X5_isAhead : GoodIn wsX5_judge wsX5_isAhead := goodIn_r _ [15, 3, 1, 16, 17, 18, 19, 20, 21, 22, 23] (by decide +kernel) (by decide +kernel)
set_option maxRecDepth 20000 in
theorem gX5_judge_X5_isAhead : GoodIn wsX5_judge (wsV RX5 77 RX5 yX5_isAhead wsX5_isAhead) := goodIn_app (goodIn_of _ (by decide +kernel)) ggX5_judge_X5_isAhead
theorem dX5_judge_0 : decode cX5_judge 0 = .ok (.iload_n 1, 1) := by decide +kernel
theorem dX5_judge_1 : decode cX5_judge 1 = .ok (.invokestatic 69, 3) := by decide +kernel
theorem dX5_judge_4 : decode cX5_judge 4 = .ok (.istore_n 3, 1) := by decide +kernel
theorem dX5_judge_5 : decode cX5_judge 5 = .ok (.iload_n 2, 1) := by decide +kernel
theorem dX5_judge_6 : decode cX5_judge 6 = .ok (.aload_n 0, 1) := by decide +kernel
theorem dX5_judge_7 : decode cX5_judge 7 = .ok (.getfield 71, 3) := by decide +kernel
theorem dX5_judge_10 : decode cX5_judge 10 = .ok (.imul, 1) := by decide +kernel
theorem dX5_judge_11 : decode cX5_judge 11 = .ok (.istore 4, 2) := by decide +kernel
theorem dX5_judge_13 : decode cX5_judge 13 = .ok (.aload_n 0, 1) := by decide +kernel
theorem dX5_judge_14 : decode cX5_judge 14 = .ok (.getfield 74, 3) := by decide +kernel
theorem dX5_judge_17 : decode cX5_judge 17 = .ok (.iload_n 3, 1) := by decide +kernel
theorem dX5_judge_18 : decode cX5_judge 18 = .ok (.imul, 1) := by decide +kernel
theorem dX5_judge_19 : decode cX5_judge 19 = .ok (.istore 5, 2) := by decide +kernel
theorem dX5_judge_21 : decode cX5_judge 21 = .ok (.aload_n 0, 1) := by decide +kernel
theorem dX5_judge_22 : decode cX5_judge 22 = .ok (.getfield 29, 3) := by decide +kernel
theorem dX5_judge_25 : decode cX5_judge 25 = .ok (.ifCond .eq 26, 3) := by decide +kernel
theorem dX5_judge_28 : decode cX5_judge 28 = .ok (.iload 4, 2) := by decide +kernel
theorem dX5_judge_30 : decode cX5_judge 30 = .ok (.iload 5, 2) := by decide +kernel
theorem dX5_judge_32 : decode cX5_judge 32 = .ok (.if_icmp .lt 19, 3) := by decide +kernel
theorem dX5_judge_35 : decode cX5_judge 35 = .ok (.iload 4, 2) := by decide +kernel
theorem dX5_judge_37 : decode cX5_judge 37 = .ok (.iload 5, 2) := by decide +kernel
theorem dX5_judge_39 : decode cX5_judge 39 = .ok (.if_icmp .ne 27, 3) := by decide +kernel
theorem dX5_judge_42 : decode cX5_judge 42 = .ok (.aload_n 0, 1) := by decide +kernel
theorem dX5_judge_43 : decode cX5_judge 43 = .ok (.iload_n 1, 1) := by decide +kernel
theorem dX5_judge_44 : decode cX5_judge 44 = .ok (.iload_n 3, 1) := by decide +kernel
theorem dX5_judge_45 : decode cX5_judge 45 = .ok (.invokevirtual 77, 3) := by decide +kernel
theorem dX5_judge_48 : decode cX5_judge 48 = .ok (.ifCond .eq 18, 3) := by decide +kernel
theorem dX5_judge_51 : decode cX5_judge 51 = .ok (.aload_n 0, 1) := by decide +kernel
theorem dX5_judge_52 : decode cX5_judge 52 = .ok (.iload_n 1, 1) := by decide +kernel
theorem dX5_judge_53 : decode cX5_judge 53 = .ok (.putfield 29, 3) := by decide +kernel
theorem dX5_judge_56 : decode cX5_judge 56 = .ok (.aload_n 0, 1) := by decide +kernel
theorem dX5_judge_57 : decode cX5_judge 57 = .ok (.iload_n 2, 1) := by decide +kernel
theorem dX5_judge_58 : decode cX5_judge 58 = .ok (.putfield 74, 3) := by decide +kernel
theorem dX5_judge_61 : decode cX5_judge 61 = .ok (.aload_n 0, 1) := by decide +kernel
theorem dX5_judge_62 : decode cX5_judge 62 = .ok (.iload_n 3, 1) := by decide +kernel
theorem dX5_judge_63 : decode cX5_judge 63 = .ok (.putfield 71, 3) := by decide +kernel
theorem dX5_judge_66 : decode cX5_judge 66 = .ok (.return_, 1) := by decide +kernel
theorem dX5_isAhead_0 : decode cX5_isAhead 0 = .ok (.iload_n 1, 1) := by decide +kernel
theorem dX5_isAhead_1 : decode cX5_isAhead 1 = .ok (.aload_n 0, 1) := by decide +kernel
theorem dX5_isAhead_2 : decode cX5_isAhead 2 = .ok (.getfield 29, 3) := by decide +kernel
theorem dX5_isAhead_5 : decode cX5_isAhead 5 = .ok (.ixor, 1) := by decide +kernel
theorem dX5_isAhead_6 : decode cX5_isAhead 6 = .ok (.istore_n 3, 1) := by decide +kernel
theorem dX5_isAhead_7 : decode cX5_isAhead 7 = .ok (.iload_n 2, 1) := by decide +kernel
theorem dX5_isAhead_8 : decode cX5_isAhead 8 = .ok (.aload_n 0, 1) := by decide +kernel
theorem dX5_isAhead_9 : decode cX5_isAhead 9 = .ok (.getfield 71, 3) := by decide +kernel
theorem dX5_isAhead_12 : decode cX5_isAhead 12 = .ok (.if_icmp .gt 20, 3) := by decide +kernel
theorem dX5_isAhead_15 : decode cX5_isAhead 15 = .ok (.iload_n 2, 1) := by decide +kernel
theorem dX5_isAhead_16 : decode cX5_isAhead 16 = .ok (.aload_n 0, 1) := by decide +kernel
theorem dX5_isAhead_17 : decode cX5_isAhead 17 = .ok (.getfield 71, 3) := by decide +kernel
theorem dX5_isAhead_20 : decode cX5_isAhead 20 = .ok (.if_icmp .ne 16, 3) := by decide +kernel
theorem dX5_isAhead_23 : decode cX5_isAhead 23 = .ok (.iload_n 1, 1) := by decide +kernel
theorem dX5_isAhead_24 : decode cX5_isAhead 24 = .ok (.iload_n 3, 1) := by decide +kernel
theorem dX5_isAhead_25 : decode cX5_isAhead 25 = .ok (.iand, 1) := by decide +kernel
theorem dX5_isAhead_26 : decode cX5_isAhead 26 = .ok (.iload_n 3, 1) := by decide +kernel
theorem dX5_isAhead_27 : decode cX5_isAhead 27 = .ok (.ineg, 1) := by decide +kernel
theorem dX5_isAhead_28 : decode cX5_isAhead 28 = .ok (.iand, 1) := by decide +kernel
theorem dX5_isAhead_29 : decode cX5_isAhead 29 = .ok (.ifCond .eq 7, 3) := by decide +kernel
theorem dX5_isAhead_32 : decode cX5_isAhead 32 = .ok (.iconst 1, 1) := by decide +kernel
theorem dX5_isAhead_33 : decode cX5_isAhead 33 = .ok (.goto 4, 3) := by decide +kernel
theorem dX5_isAhead_36 : decode cX5_isAhead 36 = .ok (.iconst 0, 1) := by decide +kernel
theorem dX5_isAhead_37 : decode cX5_isAhead 37 = .ok (.ireturn, 1) := by decide +kernel
set_option maxRecDepth 20000 in
theorem ggX5_answer_X7_greatestDivisor : GoodIn wsX5_answer wsX7_greatestDivisor := goodIn_r _ [6] (by decide +kernel) (by decide +kernel)
set_option maxRecDepth 20000 in
theorem gX5_answer_X7_greatestDivisor_n81 : GoodIn wsX5_answer (wsX7_greatestDivisor) := ggX5_answer_X7_greatestDivisor
theorem dX5_answer_0 : decode cX5_answer 0 = .ok (.aload_n 0, 1) := by decide +kernel
theorem dX5_answer_1 : decode cX5_answer 1 = .ok (.getfield 74, 3) := by decide +kernel
theorem dX5_answer_4 : decode cX5_answer 4 = .ok (.aload_n 0, 1) := by decide +kernel
theorem dX5_answer_5 : decode cX5_answer 5 = .ok (.getfield 71, 3) := by decide +kernel
theorem dX5_answer_8 : decode cX5_answer 8 = .ok (.invokestatic 81, 3) := by decide +kernel
theorem dX5_answer_11 : decode cX5_answer 11 = .ok (.istore_n 2, 1) := by decide +kernel
theorem dX5_answer_12 : decode cX5_answer 12 = .ok (.iload_n 1, 1) := by decide +kernel
theorem dX5_answer_13 : decode cX5_answer 13 = .ok (.iconst 2, 1) := by decide +kernel
theorem dX5_answer_14 : decode cX5_answer 14 = .ok (.if_icmp .eq 8, 3) := by decide +kernel
theorem dX5_answer_17 : decode cX5_answer 17 = .ok (.iload_n 2, 1) := by decide +kernel
theorem dX5_answer_18 : decode cX5_answer 18 = .ok (.iconst 1, 1) := by decide +kernel
theorem dX5_answer_19 : decode cX5_answer 19 = .ok (.if_icmp .ge 8, 3) := by decide +kernel
theorem dX5_answer_22 : decode cX5_answer 22 = .ok (.aload_n 0, 1) := by decide +kernel
theorem dX5_answer_23 : decode cX5_answer 23 = .ok (.getfield 29, 3) := by decide +kernel
theorem dX5_answer_26 : decode cX5_answer 26 = .ok (.ireturn, 1) := by decide +kernel
theorem dX5_answer_27 : decode cX5_answer 27 = .ok (.iload_n 1, 1) := by decide +kernel
theorem dX5_answer_28 : decode cX5_answer 28 = .ok (.ifCond .ne 12, 3) := by decide +kernel
theorem dX5_answer_31 : decode cX5_answer 31 = .ok (.aload_n 0, 1) := by decide +kernel
theorem dX5_answer_32 : decode cX5_answer 32 = .ok (.getfield 74, 3) := by decide +kernel
theorem dX5_answer_35 : decode cX5_answer 35 = .ok (.iload_n 2, 1) := by decide +kernel
theorem dX5_answer_36 : decode cX5_answer 36 = .ok (.idiv, 1) := by decide +kernel
theorem dX5_answer_37 : decode cX5_answer 37 = .ok (.goto 9, 3) := by decide +kernel
theorem dX5_answer_40 : decode cX5_answer 40 = .ok (.aload_n 0, 1) := by decide +kernel
theorem dX5_answer_41 : decode cX5_answer 41 = .ok (.getfield 71, 3) := by decide +kernel
theorem dX5_answer_44 : decode cX5_answer 44 = .ok (.iload_n 2, 1) := by decide +kernel
theorem dX5_answer_45 : decode cX5_answer 45 = .ok (.idiv, 1) := by decide +kernel
theorem dX5_answer_46 : decode cX5_answer 46 = .ok (.ireturn, 1) := by decide +kernel
theorem dX5_bestSet_0 : decode cX5_bestSet 0 = .ok (.lconst 0, 1) := by decide +kernel
theorem dX5_bestSet_1 : decode cX5_bestSet 1 = .ok (.lstore_n 1, 1) := by decide +kernel
theorem dX5_bestSet_2 : decode cX5_bestSet 2 = .ok (.iconst 0, 1) := by decide +kernel
theorem dX5_bestSet_3 : decode cX5_bestSet 3 = .ok (.istore_n 3, 1) := by decide +kernel
theorem dX5_bestSet_4 : decode cX5_bestSet 4 = .ok (.iload_n 3, 1) := by decide +kernel
theorem dX5_bestSet_5 : decode cX5_bestSet 5 = .ok (.bipush 12, 2) := by decide +kernel
theorem dX5_bestSet_7 : decode cX5_bestSet 7 = .ok (.if_icmp .ge 31, 3) := by decide +kernel
theorem dX5_bestSet_10 : decode cX5_bestSet 10 = .ok (.aload_n 0, 1) := by decide +kernel
theorem dX5_bestSet_11 : decode cX5_bestSet 11 = .ok (.getfield 29, 3) := by decide +kernel
theorem dX5_bestSet_14 : decode cX5_bestSet 14 = .ok (.iload_n 3, 1) := by decide +kernel
theorem dX5_bestSet_15 : decode cX5_bestSet 15 = .ok (.iushr, 1) := by decide +kernel
theorem dX5_bestSet_16 : decode cX5_bestSet 16 = .ok (.iconst 1, 1) := by decide +kernel
theorem dX5_bestSet_17 : decode cX5_bestSet 17 = .ok (.iand, 1) := by decide +kernel
theorem dX5_bestSet_18 : decode cX5_bestSet 18 = .ok (.ifCond .eq 14, 3) := by decide +kernel
theorem dX5_bestSet_21 : decode cX5_bestSet 21 = .ok (.lload_n 1, 1) := by decide +kernel
theorem dX5_bestSet_22 : decode cX5_bestSet 22 = .ok (.lconst 1, 1) := by decide +kernel
theorem dX5_bestSet_23 : decode cX5_bestSet 23 = .ok (.aload_n 0, 1) := by decide +kernel
theorem dX5_bestSet_24 : decode cX5_bestSet 24 = .ok (.getfield 9, 3) := by decide +kernel
theorem dX5_bestSet_27 : decode cX5_bestSet 27 = .ok (.iload_n 3, 1) := by decide +kernel
theorem dX5_bestSet_28 : decode cX5_bestSet 28 = .ok (.iaload, 1) := by decide +kernel
theorem dX5_bestSet_29 : decode cX5_bestSet 29 = .ok (.lshl, 1) := by decide +kernel
theorem dX5_bestSet_30 : decode cX5_bestSet 30 = .ok (.lor, 1) := by decide +kernel
theorem dX5_bestSet_31 : decode cX5_bestSet 31 = .ok (.lstore_n 1, 1) := by decide +kernel
theorem dX5_bestSet_32 : decode cX5_bestSet 32 = .ok (.iinc 3 1, 3) := by decide +kernel
theorem dX5_bestSet_35 : decode cX5_bestSet 35 = .ok (.goto (-31), 3) := by decide +kernel
theorem dX5_bestSet_38 : decode cX5_bestSet 38 = .ok (.lload_n 1, 1) := by decide +kernel
theorem dX5_bestSet_39 : decode cX5_bestSet 39 = .ok (.lreturn, 1) := by decide +kernel
