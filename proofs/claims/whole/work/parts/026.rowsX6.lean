theorem dX6_init_0 : decode cX6_init 0 = .ok (.aload_n 0, 1) := by decide +kernel
theorem dX6_init_1 : decode cX6_init 1 = .ok (.invokespecial 3, 3) := by decide +kernel
theorem dX6_init_4 : decode cX6_init 4 = .ok (.aload_n 0, 1) := by decide +kernel
theorem dX6_init_5 : decode cX6_init 5 = .ok (.iconst 4, 1) := by decide +kernel
theorem dX6_init_6 : decode cX6_init 6 = .ok (.newarray .long, 2) := by decide +kernel
theorem dX6_init_8 : decode cX6_init 8 = .ok (.putfield 11, 3) := by decide +kernel
theorem dX6_init_11 : decode cX6_init 11 = .ok (.return_, 1) := by decide +kernel
set_option maxRecDepth 20000 in
theorem ggX6_become_J7_fill_d0a16 : GoodIn wsX6_become wsJ7_fill_d0a16 := goodIn_r _ [5] (by decide +kernel) (by decide +kernel)
set_option maxRecDepth 20000 in
theorem gX6_become_J7_fill_d0a16 : GoodIn wsX6_become (va_wsS RX6 15 yJ7_fill_d0a16 wsJ7_fill_d0a16) := goodIn_app (goodIn_of _ (by decide +kernel)) ggX6_become_J7_fill_d0a16
theorem dX6_become_0 : decode cX6_become 0 = .ok (.aload_n 0, 1) := by decide +kernel
theorem dX6_become_1 : decode cX6_become 1 = .ok (.getfield 11, 3) := by decide +kernel
theorem dX6_become_4 : decode cX6_become 4 = .ok (.lconst 0, 1) := by decide +kernel
theorem dX6_become_5 : decode cX6_become 5 = .ok (.invokestatic 15, 3) := by decide +kernel
theorem dX6_become_8 : decode cX6_become 8 = .ok (.aload_n 0, 1) := by decide +kernel
theorem dX6_become_9 : decode cX6_become 9 = .ok (.getfield 11, 3) := by decide +kernel
theorem dX6_become_12 : decode cX6_become 12 = .ok (.iconst 0, 1) := by decide +kernel
theorem dX6_become_13 : decode cX6_become 13 = .ok (.lload_n 1, 1) := by decide +kernel
theorem dX6_become_14 : decode cX6_become 14 = .ok (.lastore, 1) := by decide +kernel
theorem dX6_become_15 : decode cX6_become 15 = .ok (.return_, 1) := by decide +kernel
theorem dX6_becomeLike_0 : decode cX6_becomeLike 0 = .ok (.aload_n 1, 1) := by decide +kernel
theorem dX6_becomeLike_1 : decode cX6_becomeLike 1 = .ok (.getfield 11, 3) := by decide +kernel
theorem dX6_becomeLike_4 : decode cX6_becomeLike 4 = .ok (.iconst 0, 1) := by decide +kernel
theorem dX6_becomeLike_5 : decode cX6_becomeLike 5 = .ok (.aload_n 0, 1) := by decide +kernel
theorem dX6_becomeLike_6 : decode cX6_becomeLike 6 = .ok (.getfield 11, 3) := by decide +kernel
theorem dX6_becomeLike_9 : decode cX6_becomeLike 9 = .ok (.iconst 0, 1) := by decide +kernel
theorem dX6_becomeLike_10 : decode cX6_becomeLike 10 = .ok (.iconst 4, 1) := by decide +kernel
theorem dX6_becomeLike_11 : decode cX6_becomeLike 11 = .ok (.invokestatic 21, 3) := by decide +kernel
theorem dX6_becomeLike_14 : decode cX6_becomeLike 14 = .ok (.return_, 1) := by decide +kernel
set_option maxRecDepth 20000 in
theorem ggX6_becomeSumsOf_J7_fill_d0a16 : GoodIn wsX6_becomeSumsOf wsJ7_fill_d0a16 := goodIn_r _ [5] (by decide +kernel) (by decide +kernel)
set_option maxRecDepth 20000 in
theorem gX6_becomeSumsOf_J7_fill_d0a16 : GoodIn wsX6_becomeSumsOf (va_wsS RX6 15 yJ7_fill_d0a16 wsJ7_fill_d0a16) := goodIn_app (goodIn_of _ (by decide +kernel)) ggX6_becomeSumsOf_J7_fill_d0a16
set_option maxRecDepth 20000 in
theorem ggX6_becomeSumsOf_X7_has : GoodIn wsX6_becomeSumsOf wsX7_has := goodIn_r _ [8, 9, 10, 7, 11] (by decide +kernel) (by decide +kernel)
set_option maxRecDepth 20000 in
theorem gX6_becomeSumsOf_X7_has_n27 : GoodIn wsX6_becomeSumsOf (wsX7_has) := ggX6_becomeSumsOf_X7_has
set_option maxRecDepth 20000 in
theorem ggX6_becomeSumsOf_X6_addMoved : GoodIn wsX6_becomeSumsOf wsX6_addMoved := goodIn_r _ [16, 1, 17, 18, 15, 19, 20] (by decide +kernel) (by decide +kernel)
set_option maxRecDepth 20000 in
theorem gX6_becomeSumsOf_X6_addMoved : GoodIn wsX6_becomeSumsOf (wsV RX6 31 RX6 yX6_addMoved wsX6_addMoved) := goodIn_app (goodIn_of _ (by decide +kernel)) ggX6_becomeSumsOf_X6_addMoved
theorem dX6_becomeSumsOf_0 : decode cX6_becomeSumsOf 0 = .ok (.aload_n 0, 1) := by decide +kernel
theorem dX6_becomeSumsOf_1 : decode cX6_becomeSumsOf 1 = .ok (.getfield 11, 3) := by decide +kernel
theorem dX6_becomeSumsOf_4 : decode cX6_becomeSumsOf 4 = .ok (.lconst 0, 1) := by decide +kernel
theorem dX6_becomeSumsOf_5 : decode cX6_becomeSumsOf 5 = .ok (.invokestatic 15, 3) := by decide +kernel
theorem dX6_becomeSumsOf_8 : decode cX6_becomeSumsOf 8 = .ok (.iconst 0, 1) := by decide +kernel
theorem dX6_becomeSumsOf_9 : decode cX6_becomeSumsOf 9 = .ok (.istore 4, 2) := by decide +kernel
theorem dX6_becomeSumsOf_11 : decode cX6_becomeSumsOf 11 = .ok (.iload 4, 2) := by decide +kernel
theorem dX6_becomeSumsOf_13 : decode cX6_becomeSumsOf 13 = .ok (.bipush 40, 2) := by decide +kernel
theorem dX6_becomeSumsOf_15 : decode cX6_becomeSumsOf 15 = .ok (.if_icmp .gt 25, 3) := by decide +kernel
theorem dX6_becomeSumsOf_18 : decode cX6_becomeSumsOf 18 = .ok (.lload_n 1, 1) := by decide +kernel
theorem dX6_becomeSumsOf_19 : decode cX6_becomeSumsOf 19 = .ok (.iload 4, 2) := by decide +kernel
theorem dX6_becomeSumsOf_21 : decode cX6_becomeSumsOf 21 = .ok (.invokestatic 27, 3) := by decide +kernel
theorem dX6_becomeSumsOf_24 : decode cX6_becomeSumsOf 24 = .ok (.ifCond .eq 10, 3) := by decide +kernel
theorem dX6_becomeSumsOf_27 : decode cX6_becomeSumsOf 27 = .ok (.aload_n 0, 1) := by decide +kernel
theorem dX6_becomeSumsOf_28 : decode cX6_becomeSumsOf 28 = .ok (.aload_n 3, 1) := by decide +kernel
theorem dX6_becomeSumsOf_29 : decode cX6_becomeSumsOf 29 = .ok (.iload 4, 2) := by decide +kernel
theorem dX6_becomeSumsOf_31 : decode cX6_becomeSumsOf 31 = .ok (.invokevirtual 31, 3) := by decide +kernel
theorem dX6_becomeSumsOf_34 : decode cX6_becomeSumsOf 34 = .ok (.iinc 4 1, 3) := by decide +kernel
theorem dX6_becomeSumsOf_37 : decode cX6_becomeSumsOf 37 = .ok (.goto (-26), 3) := by decide +kernel
theorem dX6_becomeSumsOf_40 : decode cX6_becomeSumsOf 40 = .ok (.return_, 1) := by decide +kernel
set_option maxRecDepth 20000 in
theorem ggX6_addMoved_X6_carried : GoodIn wsX6_addMoved wsX6_carried := goodIn_r _ [5] (by decide +kernel) (by decide +kernel)
set_option maxRecDepth 20000 in
theorem gX6_addMoved_X6_carried : GoodIn wsX6_addMoved (va_wsS RX6 35 yX6_carried wsX6_carried) := goodIn_app (goodIn_of _ (by decide +kernel)) ggX6_addMoved_X6_carried
theorem dX6_addMoved_0 : decode cX6_addMoved 0 = .ok (.aload_n 0, 1) := by decide +kernel
theorem dX6_addMoved_1 : decode cX6_addMoved 1 = .ok (.getfield 11, 3) := by decide +kernel
theorem dX6_addMoved_4 : decode cX6_addMoved 4 = .ok (.iconst 0, 1) := by decide +kernel
theorem dX6_addMoved_5 : decode cX6_addMoved 5 = .ok (.dup2, 1) := by decide +kernel
theorem dX6_addMoved_6 : decode cX6_addMoved 6 = .ok (.laload, 1) := by decide +kernel
theorem dX6_addMoved_7 : decode cX6_addMoved 7 = .ok (.aload_n 1, 1) := by decide +kernel
theorem dX6_addMoved_8 : decode cX6_addMoved 8 = .ok (.getfield 11, 3) := by decide +kernel
theorem dX6_addMoved_11 : decode cX6_addMoved 11 = .ok (.iconst 0, 1) := by decide +kernel
theorem dX6_addMoved_12 : decode cX6_addMoved 12 = .ok (.laload, 1) := by decide +kernel
theorem dX6_addMoved_13 : decode cX6_addMoved 13 = .ok (.iload_n 2, 1) := by decide +kernel
theorem dX6_addMoved_14 : decode cX6_addMoved 14 = .ok (.lshl, 1) := by decide +kernel
theorem dX6_addMoved_15 : decode cX6_addMoved 15 = .ok (.lor, 1) := by decide +kernel
theorem dX6_addMoved_16 : decode cX6_addMoved 16 = .ok (.lastore, 1) := by decide +kernel
theorem dX6_addMoved_17 : decode cX6_addMoved 17 = .ok (.iconst 1, 1) := by decide +kernel
theorem dX6_addMoved_18 : decode cX6_addMoved 18 = .ok (.istore_n 3, 1) := by decide +kernel
theorem dX6_addMoved_19 : decode cX6_addMoved 19 = .ok (.iload_n 3, 1) := by decide +kernel
theorem dX6_addMoved_20 : decode cX6_addMoved 20 = .ok (.iconst 4, 1) := by decide +kernel
theorem dX6_addMoved_21 : decode cX6_addMoved 21 = .ok (.if_icmp .ge 39, 3) := by decide +kernel
theorem dX6_addMoved_24 : decode cX6_addMoved 24 = .ok (.aload_n 0, 1) := by decide +kernel
theorem dX6_addMoved_25 : decode cX6_addMoved 25 = .ok (.getfield 11, 3) := by decide +kernel
theorem dX6_addMoved_28 : decode cX6_addMoved 28 = .ok (.iload_n 3, 1) := by decide +kernel
theorem dX6_addMoved_29 : decode cX6_addMoved 29 = .ok (.dup2, 1) := by decide +kernel
theorem dX6_addMoved_30 : decode cX6_addMoved 30 = .ok (.laload, 1) := by decide +kernel
theorem dX6_addMoved_31 : decode cX6_addMoved 31 = .ok (.aload_n 1, 1) := by decide +kernel
theorem dX6_addMoved_32 : decode cX6_addMoved 32 = .ok (.getfield 11, 3) := by decide +kernel
theorem dX6_addMoved_35 : decode cX6_addMoved 35 = .ok (.iload_n 3, 1) := by decide +kernel
theorem dX6_addMoved_36 : decode cX6_addMoved 36 = .ok (.laload, 1) := by decide +kernel
theorem dX6_addMoved_37 : decode cX6_addMoved 37 = .ok (.iload_n 2, 1) := by decide +kernel
theorem dX6_addMoved_38 : decode cX6_addMoved 38 = .ok (.lshl, 1) := by decide +kernel
theorem dX6_addMoved_39 : decode cX6_addMoved 39 = .ok (.aload_n 1, 1) := by decide +kernel
theorem dX6_addMoved_40 : decode cX6_addMoved 40 = .ok (.getfield 11, 3) := by decide +kernel
theorem dX6_addMoved_43 : decode cX6_addMoved 43 = .ok (.iload_n 3, 1) := by decide +kernel
theorem dX6_addMoved_44 : decode cX6_addMoved 44 = .ok (.iconst 1, 1) := by decide +kernel
theorem dX6_addMoved_45 : decode cX6_addMoved 45 = .ok (.isub, 1) := by decide +kernel
theorem dX6_addMoved_46 : decode cX6_addMoved 46 = .ok (.laload, 1) := by decide +kernel
theorem dX6_addMoved_47 : decode cX6_addMoved 47 = .ok (.iload_n 2, 1) := by decide +kernel
theorem dX6_addMoved_48 : decode cX6_addMoved 48 = .ok (.invokestatic 35, 3) := by decide +kernel
theorem dX6_addMoved_51 : decode cX6_addMoved 51 = .ok (.lor, 1) := by decide +kernel
theorem dX6_addMoved_52 : decode cX6_addMoved 52 = .ok (.lor, 1) := by decide +kernel
theorem dX6_addMoved_53 : decode cX6_addMoved 53 = .ok (.lastore, 1) := by decide +kernel
theorem dX6_addMoved_54 : decode cX6_addMoved 54 = .ok (.iinc 3 1, 3) := by decide +kernel
theorem dX6_addMoved_57 : decode cX6_addMoved 57 = .ok (.goto (-38), 3) := by decide +kernel
theorem dX6_addMoved_60 : decode cX6_addMoved 60 = .ok (.return_, 1) := by decide +kernel
theorem dX6_carried_0 : decode cX6_carried 0 = .ok (.iload_n 2, 1) := by decide +kernel
theorem dX6_carried_1 : decode cX6_carried 1 = .ok (.ifCond .ne 7, 3) := by decide +kernel
theorem dX6_carried_4 : decode cX6_carried 4 = .ok (.lconst 0, 1) := by decide +kernel
theorem dX6_carried_5 : decode cX6_carried 5 = .ok (.goto 9, 3) := by decide +kernel
theorem dX6_carried_8 : decode cX6_carried 8 = .ok (.lload_n 0, 1) := by decide +kernel
theorem dX6_carried_9 : decode cX6_carried 9 = .ok (.bipush 64, 2) := by decide +kernel
theorem dX6_carried_11 : decode cX6_carried 11 = .ok (.iload_n 2, 1) := by decide +kernel
theorem dX6_carried_12 : decode cX6_carried 12 = .ok (.isub, 1) := by decide +kernel
theorem dX6_carried_13 : decode cX6_carried 13 = .ok (.lushr, 1) := by decide +kernel
theorem dX6_carried_14 : decode cX6_carried 14 = .ok (.lreturn, 1) := by decide +kernel
theorem dX6_lowest64_0 : decode cX6_lowest64 0 = .ok (.aload_n 0, 1) := by decide +kernel
theorem dX6_lowest64_1 : decode cX6_lowest64 1 = .ok (.getfield 11, 3) := by decide +kernel
theorem dX6_lowest64_4 : decode cX6_lowest64 4 = .ok (.iconst 0, 1) := by decide +kernel
theorem dX6_lowest64_5 : decode cX6_lowest64 5 = .ok (.laload, 1) := by decide +kernel
theorem dX6_lowest64_6 : decode cX6_lowest64 6 = .ok (.lreturn, 1) := by decide +kernel
set_option maxRecDepth 20000 in
theorem ggX6_size_J13_bitCount_95d88 : GoodIn wsX6_size wsJ13_bitCount_95d88 := goodIn_r _ [5, 6, 7, 8] (by decide +kernel) (by decide +kernel)
set_option maxRecDepth 20000 in
theorem gX6_size_J13_bitCount_95d88 : GoodIn wsX6_size (va_wsS RX6 39 yJ13_bitCount_95d88 wsJ13_bitCount_95d88) := goodIn_app (goodIn_of _ (by decide +kernel)) ggX6_size_J13_bitCount_95d88
theorem dX6_size_0 : decode cX6_size 0 = .ok (.iconst 0, 1) := by decide +kernel
theorem dX6_size_1 : decode cX6_size 1 = .ok (.istore_n 1, 1) := by decide +kernel
theorem dX6_size_2 : decode cX6_size 2 = .ok (.iconst 0, 1) := by decide +kernel
theorem dX6_size_3 : decode cX6_size 3 = .ok (.istore_n 2, 1) := by decide +kernel
theorem dX6_size_4 : decode cX6_size 4 = .ok (.iload_n 2, 1) := by decide +kernel
theorem dX6_size_5 : decode cX6_size 5 = .ok (.iconst 4, 1) := by decide +kernel
theorem dX6_size_6 : decode cX6_size 6 = .ok (.if_icmp .ge 21, 3) := by decide +kernel
theorem dX6_size_9 : decode cX6_size 9 = .ok (.iload_n 1, 1) := by decide +kernel
theorem dX6_size_10 : decode cX6_size 10 = .ok (.aload_n 0, 1) := by decide +kernel
theorem dX6_size_11 : decode cX6_size 11 = .ok (.getfield 11, 3) := by decide +kernel
theorem dX6_size_14 : decode cX6_size 14 = .ok (.iload_n 2, 1) := by decide +kernel
theorem dX6_size_15 : decode cX6_size 15 = .ok (.laload, 1) := by decide +kernel
theorem dX6_size_16 : decode cX6_size 16 = .ok (.invokestatic 39, 3) := by decide +kernel
theorem dX6_size_19 : decode cX6_size 19 = .ok (.iadd, 1) := by decide +kernel
theorem dX6_size_20 : decode cX6_size 20 = .ok (.istore_n 1, 1) := by decide +kernel
theorem dX6_size_21 : decode cX6_size 21 = .ok (.iinc 2 1, 3) := by decide +kernel
theorem dX6_size_24 : decode cX6_size 24 = .ok (.goto (-20), 3) := by decide +kernel
theorem dX6_size_27 : decode cX6_size 27 = .ok (.iload_n 1, 1) := by decide +kernel
theorem dX6_size_28 : decode cX6_size 28 = .ok (.ireturn, 1) := by decide +kernel
set_option maxRecDepth 20000 in
theorem ggX6_greatest_X7_greatestOf : GoodIn wsX6_greatest wsX7_greatestOf := goodIn_r _ [4, 5, 6, 7, 8, 9, 10, 11, 12, 13] (by decide +kernel) (by decide +kernel)
set_option maxRecDepth 20000 in
theorem gX6_greatest_X7_greatestOf_n45 : GoodIn wsX6_greatest (wsX7_greatestOf) := ggX6_greatest_X7_greatestOf
theorem dX6_greatest_0 : decode cX6_greatest 0 = .ok (.iconst 3, 1) := by decide +kernel
theorem dX6_greatest_1 : decode cX6_greatest 1 = .ok (.istore_n 1, 1) := by decide +kernel
theorem dX6_greatest_2 : decode cX6_greatest 2 = .ok (.iload_n 1, 1) := by decide +kernel
theorem dX6_greatest_3 : decode cX6_greatest 3 = .ok (.ifCond .lt 35, 3) := by decide +kernel
theorem dX6_greatest_6 : decode cX6_greatest 6 = .ok (.aload_n 0, 1) := by decide +kernel
theorem dX6_greatest_7 : decode cX6_greatest 7 = .ok (.getfield 11, 3) := by decide +kernel
theorem dX6_greatest_10 : decode cX6_greatest 10 = .ok (.iload_n 1, 1) := by decide +kernel
theorem dX6_greatest_11 : decode cX6_greatest 11 = .ok (.laload, 1) := by decide +kernel
theorem dX6_greatest_12 : decode cX6_greatest 12 = .ok (.lconst 0, 1) := by decide +kernel
theorem dX6_greatest_13 : decode cX6_greatest 13 = .ok (.lcmp, 1) := by decide +kernel
theorem dX6_greatest_14 : decode cX6_greatest 14 = .ok (.ifCond .eq 18, 3) := by decide +kernel
theorem dX6_greatest_17 : decode cX6_greatest 17 = .ok (.bipush 64, 2) := by decide +kernel
theorem dX6_greatest_19 : decode cX6_greatest 19 = .ok (.iload_n 1, 1) := by decide +kernel
theorem dX6_greatest_20 : decode cX6_greatest 20 = .ok (.imul, 1) := by decide +kernel
theorem dX6_greatest_21 : decode cX6_greatest 21 = .ok (.aload_n 0, 1) := by decide +kernel
theorem dX6_greatest_22 : decode cX6_greatest 22 = .ok (.getfield 11, 3) := by decide +kernel
theorem dX6_greatest_25 : decode cX6_greatest 25 = .ok (.iload_n 1, 1) := by decide +kernel
theorem dX6_greatest_26 : decode cX6_greatest 26 = .ok (.laload, 1) := by decide +kernel
theorem dX6_greatest_27 : decode cX6_greatest 27 = .ok (.invokestatic 45, 3) := by decide +kernel
theorem dX6_greatest_30 : decode cX6_greatest 30 = .ok (.iadd, 1) := by decide +kernel
theorem dX6_greatest_31 : decode cX6_greatest 31 = .ok (.ireturn, 1) := by decide +kernel
theorem dX6_greatest_32 : decode cX6_greatest 32 = .ok (.iinc 1 (-1), 3) := by decide +kernel
theorem dX6_greatest_35 : decode cX6_greatest 35 = .ok (.goto (-33), 3) := by decide +kernel
theorem dX6_greatest_38 : decode cX6_greatest 38 = .ok (.bipush (-4), 2) := by decide +kernel
theorem dX6_greatest_40 : decode cX6_greatest 40 = .ok (.ireturn, 1) := by decide +kernel
set_option maxRecDepth 20000 in
theorem ggX6_numberAtPlace_J13_bitCount_95d88 : GoodIn wsX6_numberAtPlace wsJ13_bitCount_95d88 := goodIn_r _ [5, 6, 7, 8] (by decide +kernel) (by decide +kernel)
set_option maxRecDepth 20000 in
theorem gX6_numberAtPlace_J13_bitCount_95d88 : GoodIn wsX6_numberAtPlace (va_wsS RX6 39 yJ13_bitCount_95d88 wsJ13_bitCount_95d88) := goodIn_app (goodIn_of _ (by decide +kernel)) ggX6_numberAtPlace_J13_bitCount_95d88
set_option maxRecDepth 20000 in
theorem ggX6_numberAtPlace_X7_numberAt : GoodIn wsX6_numberAtPlace wsX7_numberAt := goodIn_r _ [11, 12, 3, 4, 5, 6, 7, 8, 13, 14, 10, 15, 16, 17, 18, 19, 20, 21, 22, 23] (by decide +kernel) (by decide +kernel)
set_option maxRecDepth 20000 in
theorem gX6_numberAtPlace_X7_numberAt_n48 : GoodIn wsX6_numberAtPlace (wsX7_numberAt) := ggX6_numberAtPlace_X7_numberAt
theorem dX6_numberAtPlace_0 : decode cX6_numberAtPlace 0 = .ok (.iload_n 1, 1) := by decide +kernel
theorem dX6_numberAtPlace_1 : decode cX6_numberAtPlace 1 = .ok (.istore_n 2, 1) := by decide +kernel
theorem dX6_numberAtPlace_2 : decode cX6_numberAtPlace 2 = .ok (.iconst 0, 1) := by decide +kernel
theorem dX6_numberAtPlace_3 : decode cX6_numberAtPlace 3 = .ok (.istore_n 3, 1) := by decide +kernel
theorem dX6_numberAtPlace_4 : decode cX6_numberAtPlace 4 = .ok (.iload_n 3, 1) := by decide +kernel
theorem dX6_numberAtPlace_5 : decode cX6_numberAtPlace 5 = .ok (.iconst 4, 1) := by decide +kernel
theorem dX6_numberAtPlace_6 : decode cX6_numberAtPlace 6 = .ok (.if_icmp .ge 47, 3) := by decide +kernel
theorem dX6_numberAtPlace_9 : decode cX6_numberAtPlace 9 = .ok (.aload_n 0, 1) := by decide +kernel
theorem dX6_numberAtPlace_10 : decode cX6_numberAtPlace 10 = .ok (.getfield 11, 3) := by decide +kernel
theorem dX6_numberAtPlace_13 : decode cX6_numberAtPlace 13 = .ok (.iload_n 3, 1) := by decide +kernel
theorem dX6_numberAtPlace_14 : decode cX6_numberAtPlace 14 = .ok (.laload, 1) := by decide +kernel
theorem dX6_numberAtPlace_15 : decode cX6_numberAtPlace 15 = .ok (.invokestatic 39, 3) := by decide +kernel
theorem dX6_numberAtPlace_18 : decode cX6_numberAtPlace 18 = .ok (.istore 4, 2) := by decide +kernel
theorem dX6_numberAtPlace_20 : decode cX6_numberAtPlace 20 = .ok (.iload_n 2, 1) := by decide +kernel
theorem dX6_numberAtPlace_21 : decode cX6_numberAtPlace 21 = .ok (.iload 4, 2) := by decide +kernel
theorem dX6_numberAtPlace_23 : decode cX6_numberAtPlace 23 = .ok (.if_icmp .ge 19, 3) := by decide +kernel
theorem dX6_numberAtPlace_26 : decode cX6_numberAtPlace 26 = .ok (.bipush 64, 2) := by decide +kernel
theorem dX6_numberAtPlace_28 : decode cX6_numberAtPlace 28 = .ok (.iload_n 3, 1) := by decide +kernel
theorem dX6_numberAtPlace_29 : decode cX6_numberAtPlace 29 = .ok (.imul, 1) := by decide +kernel
theorem dX6_numberAtPlace_30 : decode cX6_numberAtPlace 30 = .ok (.aload_n 0, 1) := by decide +kernel
theorem dX6_numberAtPlace_31 : decode cX6_numberAtPlace 31 = .ok (.getfield 11, 3) := by decide +kernel
theorem dX6_numberAtPlace_34 : decode cX6_numberAtPlace 34 = .ok (.iload_n 3, 1) := by decide +kernel
theorem dX6_numberAtPlace_35 : decode cX6_numberAtPlace 35 = .ok (.laload, 1) := by decide +kernel
theorem dX6_numberAtPlace_36 : decode cX6_numberAtPlace 36 = .ok (.iload_n 2, 1) := by decide +kernel
theorem dX6_numberAtPlace_37 : decode cX6_numberAtPlace 37 = .ok (.invokestatic 48, 3) := by decide +kernel
theorem dX6_numberAtPlace_40 : decode cX6_numberAtPlace 40 = .ok (.iadd, 1) := by decide +kernel
theorem dX6_numberAtPlace_41 : decode cX6_numberAtPlace 41 = .ok (.ireturn, 1) := by decide +kernel
theorem dX6_numberAtPlace_42 : decode cX6_numberAtPlace 42 = .ok (.iload_n 2, 1) := by decide +kernel
theorem dX6_numberAtPlace_43 : decode cX6_numberAtPlace 43 = .ok (.iload 4, 2) := by decide +kernel
theorem dX6_numberAtPlace_45 : decode cX6_numberAtPlace 45 = .ok (.isub, 1) := by decide +kernel
theorem dX6_numberAtPlace_46 : decode cX6_numberAtPlace 46 = .ok (.istore_n 2, 1) := by decide +kernel
theorem dX6_numberAtPlace_47 : decode cX6_numberAtPlace 47 = .ok (.iinc 3 1, 3) := by decide +kernel
theorem dX6_numberAtPlace_50 : decode cX6_numberAtPlace 50 = .ok (.goto (-46), 3) := by decide +kernel
theorem dX6_numberAtPlace_53 : decode cX6_numberAtPlace 53 = .ok (.bipush (-4), 2) := by decide +kernel
theorem dX6_numberAtPlace_55 : decode cX6_numberAtPlace 55 = .ok (.ireturn, 1) := by decide +kernel
