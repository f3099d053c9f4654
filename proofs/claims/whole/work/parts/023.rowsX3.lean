theorem dX3_init_0 : decode cX3_init 0 = .ok (.aload_n 0, 1) := by decide +kernel
theorem dX3_init_1 : decode cX3_init 1 = .ok (.invokespecial 3, 3) := by decide +kernel
theorem dX3_init_4 : decode cX3_init 4 = .ok (.aload_n 0, 1) := by decide +kernel
theorem dX3_init_5 : decode cX3_init 5 = .ok (.sipush 200, 3) := by decide +kernel
theorem dX3_init_8 : decode cX3_init 8 = .ok (.newarray .char, 2) := by decide +kernel
theorem dX3_init_10 : decode cX3_init 10 = .ok (.putfield 11, 3) := by decide +kernel
theorem dX3_init_13 : decode cX3_init 13 = .ok (.aload_n 0, 1) := by decide +kernel
theorem dX3_init_14 : decode cX3_init 14 = .ok (.iconst 4, 1) := by decide +kernel
theorem dX3_init_15 : decode cX3_init 15 = .ok (.newarray .long, 2) := by decide +kernel
theorem dX3_init_17 : decode cX3_init 17 = .ok (.putfield 15, 3) := by decide +kernel
theorem dX3_init_20 : decode cX3_init 20 = .ok (.return_, 1) := by decide +kernel
theorem dX3_length_0 : decode cX3_length 0 = .ok (.aload_n 0, 1) := by decide +kernel
theorem dX3_length_1 : decode cX3_length 1 = .ok (.getfield 19, 3) := by decide +kernel
theorem dX3_length_4 : decode cX3_length 4 = .ok (.ireturn, 1) := by decide +kernel
theorem dX3_clear_0 : decode cX3_clear 0 = .ok (.aload_n 0, 1) := by decide +kernel
theorem dX3_clear_1 : decode cX3_clear 1 = .ok (.iconst 0, 1) := by decide +kernel
theorem dX3_clear_2 : decode cX3_clear 2 = .ok (.putfield 19, 3) := by decide +kernel
theorem dX3_clear_5 : decode cX3_clear 5 = .ok (.return_, 1) := by decide +kernel
theorem dX3_append_0 : decode cX3_append 0 = .ok (.aload_n 0, 1) := by decide +kernel
theorem dX3_append_1 : decode cX3_append 1 = .ok (.getfield 19, 3) := by decide +kernel
theorem dX3_append_4 : decode cX3_append 4 = .ok (.sipush 200, 3) := by decide +kernel
theorem dX3_append_7 : decode cX3_append 7 = .ok (.if_icmp .lt 5, 3) := by decide +kernel
theorem dX3_append_10 : decode cX3_append 10 = .ok (.iconst 0, 1) := by decide +kernel
theorem dX3_append_11 : decode cX3_append 11 = .ok (.ireturn, 1) := by decide +kernel
theorem dX3_append_12 : decode cX3_append 12 = .ok (.aload_n 0, 1) := by decide +kernel
theorem dX3_append_13 : decode cX3_append 13 = .ok (.getfield 11, 3) := by decide +kernel
theorem dX3_append_16 : decode cX3_append 16 = .ok (.aload_n 0, 1) := by decide +kernel
theorem dX3_append_17 : decode cX3_append 17 = .ok (.dup, 1) := by decide +kernel
theorem dX3_append_18 : decode cX3_append 18 = .ok (.getfield 19, 3) := by decide +kernel
theorem dX3_append_21 : decode cX3_append 21 = .ok (.dup_x1, 1) := by decide +kernel
theorem dX3_append_22 : decode cX3_append 22 = .ok (.iconst 1, 1) := by decide +kernel
theorem dX3_append_23 : decode cX3_append 23 = .ok (.iadd, 1) := by decide +kernel
theorem dX3_append_24 : decode cX3_append 24 = .ok (.putfield 19, 3) := by decide +kernel
theorem dX3_append_27 : decode cX3_append 27 = .ok (.iload_n 1, 1) := by decide +kernel
theorem dX3_append_28 : decode cX3_append 28 = .ok (.i2c, 1) := by decide +kernel
theorem dX3_append_29 : decode cX3_append 29 = .ok (.castore, 1) := by decide +kernel
theorem dX3_append_30 : decode cX3_append 30 = .ok (.iconst 1, 1) := by decide +kernel
theorem dX3_append_31 : decode cX3_append 31 = .ok (.ireturn, 1) := by decide +kernel
set_option maxRecDepth 20000 in
theorem ggX3_told_X7_isSlot : GoodIn wsX3_told wsX7_isSlot := goodIn_r _ [4] (by decide +kernel) (by decide +kernel)
set_option maxRecDepth 20000 in
theorem gX3_told_X7_isSlot_n23 : GoodIn wsX3_told (wsX7_isSlot) := ggX3_told_X7_isSlot
theorem dX3_told_0 : decode cX3_told 0 = .ok (.iload_n 1, 1) := by decide +kernel
theorem dX3_told_1 : decode cX3_told 1 = .ok (.invokestatic 23, 3) := by decide +kernel
theorem dX3_told_4 : decode cX3_told 4 = .ok (.ifCond .eq 12, 3) := by decide +kernel
theorem dX3_told_7 : decode cX3_told 7 = .ok (.aload_n 0, 1) := by decide +kernel
theorem dX3_told_8 : decode cX3_told 8 = .ok (.getfield 15, 3) := by decide +kernel
theorem dX3_told_11 : decode cX3_told 11 = .ok (.iload_n 1, 1) := by decide +kernel
theorem dX3_told_12 : decode cX3_told 12 = .ok (.laload, 1) := by decide +kernel
theorem dX3_told_13 : decode cX3_told 13 = .ok (.goto 4, 3) := by decide +kernel
theorem dX3_told_16 : decode cX3_told 16 = .ok (.lconst 0, 1) := by decide +kernel
theorem dX3_told_17 : decode cX3_told 17 = .ok (.lreturn, 1) := by decide +kernel
set_option maxRecDepth 20000 in
theorem ggX3_read_J7_fill_d0a16 : GoodIn wsX3_read wsJ7_fill_d0a16 := goodIn_r _ [6] (by decide +kernel) (by decide +kernel)
set_option maxRecDepth 20000 in
theorem gX3_read_J7_fill_d0a16 : GoodIn wsX3_read (va_wsS RX3 27 yJ7_fill_d0a16 wsJ7_fill_d0a16) := goodIn_app (goodIn_of _ (by decide +kernel)) ggX3_read_J7_fill_d0a16
set_option maxRecDepth 20000 in
theorem ggX3_read_X3_readItem : GoodIn wsX3_read wsX3_readItem := goodIn_r _ [11, 12, 1, 13, 14, 15, 10, 16, 2, 17, 18, 19, 20, 21, 22, 23, 24, 25, 26, 27, 28, 29, 30, 31, 32, 33, 34, 35, 36, 37, 38, 39, 40, 41, 42] (by decide +kernel) (by decide +kernel)
set_option maxRecDepth 20000 in
theorem gX3_read_X3_readItem : GoodIn wsX3_read (wsV RX3 33 RX3 yX3_readItem wsX3_readItem) := goodIn_app (goodIn_of _ (by decide +kernel)) ggX3_read_X3_readItem
theorem dX3_read_0 : decode cX3_read 0 = .ok (.aload_n 0, 1) := by decide +kernel
theorem dX3_read_1 : decode cX3_read 1 = .ok (.getfield 15, 3) := by decide +kernel
theorem dX3_read_4 : decode cX3_read 4 = .ok (.lconst 0, 1) := by decide +kernel
theorem dX3_read_5 : decode cX3_read 5 = .ok (.invokestatic 27, 3) := by decide +kernel
theorem dX3_read_8 : decode cX3_read 8 = .ok (.iconst 0, 1) := by decide +kernel
theorem dX3_read_9 : decode cX3_read 9 = .ok (.istore_n 1, 1) := by decide +kernel
theorem dX3_read_10 : decode cX3_read 10 = .ok (.iload_n 1, 1) := by decide +kernel
theorem dX3_read_11 : decode cX3_read 11 = .ok (.aload_n 0, 1) := by decide +kernel
theorem dX3_read_12 : decode cX3_read 12 = .ok (.getfield 19, 3) := by decide +kernel
theorem dX3_read_15 : decode cX3_read 15 = .ok (.if_icmp .ge 21, 3) := by decide +kernel
theorem dX3_read_18 : decode cX3_read 18 = .ok (.aload_n 0, 1) := by decide +kernel
theorem dX3_read_19 : decode cX3_read 19 = .ok (.iload_n 1, 1) := by decide +kernel
theorem dX3_read_20 : decode cX3_read 20 = .ok (.invokevirtual 33, 3) := by decide +kernel
theorem dX3_read_23 : decode cX3_read 23 = .ok (.istore_n 2, 1) := by decide +kernel
theorem dX3_read_24 : decode cX3_read 24 = .ok (.iload_n 2, 1) := by decide +kernel
theorem dX3_read_25 : decode cX3_read 25 = .ok (.iload_n 1, 1) := by decide +kernel
theorem dX3_read_26 : decode cX3_read 26 = .ok (.if_icmp .gt 5, 3) := by decide +kernel
theorem dX3_read_29 : decode cX3_read 29 = .ok (.iload_n 1, 1) := by decide +kernel
theorem dX3_read_30 : decode cX3_read 30 = .ok (.ireturn, 1) := by decide +kernel
theorem dX3_read_31 : decode cX3_read 31 = .ok (.iload_n 2, 1) := by decide +kernel
theorem dX3_read_32 : decode cX3_read 32 = .ok (.istore_n 1, 1) := by decide +kernel
theorem dX3_read_33 : decode cX3_read 33 = .ok (.goto (-23), 3) := by decide +kernel
theorem dX3_read_36 : decode cX3_read 36 = .ok (.bipush (-4), 2) := by decide +kernel
theorem dX3_read_38 : decode cX3_read 38 = .ok (.ireturn, 1) := by decide +kernel
set_option maxRecDepth 20000 in
theorem ggX3_readItem_X3_letterAt : GoodIn wsX3_readItem wsX3_letterAt := goodIn_r _ [7, 8, 9, 31, 32, 33, 34] (by decide +kernel) (by decide +kernel)
set_option maxRecDepth 20000 in
theorem gX3_readItem_X3_letterAt : GoodIn wsX3_readItem (wsV RX3 37 RX3 yX3_letterAt wsX3_letterAt) := goodIn_app (goodIn_of _ (by decide +kernel)) ggX3_readItem_X3_letterAt
set_option maxRecDepth 20000 in
theorem ggX3_readItem_X3_figuresAt : GoodIn wsX3_readItem wsX3_figuresAt := goodIn_r _ [13, 14, 15, 16, 6, 17, 3, 4, 5, 7, 8, 9, 31, 32, 33, 34] (by decide +kernel) (by decide +kernel)
set_option maxRecDepth 20000 in
theorem gX3_readItem_X3_figuresAt : GoodIn wsX3_readItem (wsV RX3 40 RX3 yX3_figuresAt wsX3_figuresAt) := goodIn_app (goodIn_of _ (by decide +kernel)) ggX3_readItem_X3_figuresAt
set_option maxRecDepth 20000 in
theorem ggX3_readItem_X3_valueAt : GoodIn wsX3_readItem wsX3_valueAt := goodIn_r _ [21, 3, 4, 5, 6, 7, 8, 9, 31, 32, 33, 34] (by decide +kernel) (by decide +kernel)
set_option maxRecDepth 20000 in
theorem gX3_readItem_X3_valueAt : GoodIn wsX3_readItem (wsV RX3 43 RX3 yX3_valueAt wsX3_valueAt) := goodIn_app (goodIn_of _ (by decide +kernel)) ggX3_readItem_X3_valueAt
set_option maxRecDepth 20000 in
theorem ggX3_readItem_X3_readNumbers : GoodIn wsX3_readItem wsX3_readNumbers := goodIn_r _ [25, 8, 1, 3, 4, 5, 6, 7, 9, 10, 11, 12, 13, 14, 15, 16, 17, 18, 19, 20, 21, 26, 27, 28, 31, 32, 33, 34] (by decide +kernel) (by decide +kernel)
set_option maxRecDepth 20000 in
theorem gX3_readItem_X3_readNumbers : GoodIn wsX3_readItem (wsV RX3 51 RX3 yX3_readNumbers wsX3_readNumbers) := goodIn_app (goodIn_of _ (by decide +kernel)) ggX3_readItem_X3_readNumbers
set_option maxRecDepth 20000 in
theorem ggX3_readItem_X7_isSlot : GoodIn wsX3_readItem wsX7_isSlot := goodIn_r _ [30] (by decide +kernel) (by decide +kernel)
set_option maxRecDepth 20000 in
theorem gX3_readItem_X7_isSlot_n23 : GoodIn wsX3_readItem (wsX7_isSlot) := ggX3_readItem_X7_isSlot
theorem dX3_readItem_0 : decode cX3_readItem 0 = .ok (.aload_n 0, 1) := by decide +kernel
theorem dX3_readItem_1 : decode cX3_readItem 1 = .ok (.iload_n 1, 1) := by decide +kernel
theorem dX3_readItem_2 : decode cX3_readItem 2 = .ok (.invokevirtual 37, 3) := by decide +kernel
theorem dX3_readItem_5 : decode cX3_readItem 5 = .ok (.istore_n 2, 1) := by decide +kernel
theorem dX3_readItem_6 : decode cX3_readItem 6 = .ok (.aload_n 0, 1) := by decide +kernel
theorem dX3_readItem_7 : decode cX3_readItem 7 = .ok (.iload_n 1, 1) := by decide +kernel
theorem dX3_readItem_8 : decode cX3_readItem 8 = .ok (.iconst 1, 1) := by decide +kernel
theorem dX3_readItem_9 : decode cX3_readItem 9 = .ok (.iadd, 1) := by decide +kernel
theorem dX3_readItem_10 : decode cX3_readItem 10 = .ok (.invokevirtual 40, 3) := by decide +kernel
theorem dX3_readItem_13 : decode cX3_readItem 13 = .ok (.istore_n 3, 1) := by decide +kernel
theorem dX3_readItem_14 : decode cX3_readItem 14 = .ok (.iload_n 2, 1) := by decide +kernel
theorem dX3_readItem_15 : decode cX3_readItem 15 = .ok (.bipush 115, 2) := by decide +kernel
theorem dX3_readItem_17 : decode cX3_readItem 17 = .ok (.if_icmp .eq 9, 3) := by decide +kernel
theorem dX3_readItem_20 : decode cX3_readItem 20 = .ok (.iload_n 2, 1) := by decide +kernel
theorem dX3_readItem_21 : decode cX3_readItem 21 = .ok (.bipush 101, 2) := by decide +kernel
theorem dX3_readItem_23 : decode cX3_readItem 23 = .ok (.if_icmp .ne 7, 3) := by decide +kernel
theorem dX3_readItem_26 : decode cX3_readItem 26 = .ok (.iload_n 3, 1) := by decide +kernel
theorem dX3_readItem_27 : decode cX3_readItem 27 = .ok (.ifCond .ne 5, 3) := by decide +kernel
theorem dX3_readItem_30 : decode cX3_readItem 30 = .ok (.iconst (-1), 1) := by decide +kernel
theorem dX3_readItem_31 : decode cX3_readItem 31 = .ok (.ireturn, 1) := by decide +kernel
theorem dX3_readItem_32 : decode cX3_readItem 32 = .ok (.aload_n 0, 1) := by decide +kernel
theorem dX3_readItem_33 : decode cX3_readItem 33 = .ok (.iload_n 1, 1) := by decide +kernel
theorem dX3_readItem_34 : decode cX3_readItem 34 = .ok (.iconst 1, 1) := by decide +kernel
theorem dX3_readItem_35 : decode cX3_readItem 35 = .ok (.iadd, 1) := by decide +kernel
theorem dX3_readItem_36 : decode cX3_readItem 36 = .ok (.iload_n 3, 1) := by decide +kernel
theorem dX3_readItem_37 : decode cX3_readItem 37 = .ok (.invokevirtual 43, 3) := by decide +kernel
theorem dX3_readItem_40 : decode cX3_readItem 40 = .ok (.istore 4, 2) := by decide +kernel
theorem dX3_readItem_42 : decode cX3_readItem 42 = .ok (.iload_n 1, 1) := by decide +kernel
theorem dX3_readItem_43 : decode cX3_readItem 43 = .ok (.iconst 1, 1) := by decide +kernel
theorem dX3_readItem_44 : decode cX3_readItem 44 = .ok (.iadd, 1) := by decide +kernel
theorem dX3_readItem_45 : decode cX3_readItem 45 = .ok (.iload_n 3, 1) := by decide +kernel
theorem dX3_readItem_46 : decode cX3_readItem 46 = .ok (.iadd, 1) := by decide +kernel
theorem dX3_readItem_47 : decode cX3_readItem 47 = .ok (.istore 5, 2) := by decide +kernel
theorem dX3_readItem_49 : decode cX3_readItem 49 = .ok (.aload_n 0, 1) := by decide +kernel
theorem dX3_readItem_50 : decode cX3_readItem 50 = .ok (.lconst 0, 1) := by decide +kernel
theorem dX3_readItem_51 : decode cX3_readItem 51 = .ok (.putfield 47, 3) := by decide +kernel
theorem dX3_readItem_54 : decode cX3_readItem 54 = .ok (.iload_n 2, 1) := by decide +kernel
theorem dX3_readItem_55 : decode cX3_readItem 55 = .ok (.bipush 115, 2) := by decide +kernel
theorem dX3_readItem_57 : decode cX3_readItem 57 = .ok (.if_icmp .ne 11, 3) := by decide +kernel
theorem dX3_readItem_60 : decode cX3_readItem 60 = .ok (.aload_n 0, 1) := by decide +kernel
theorem dX3_readItem_61 : decode cX3_readItem 61 = .ok (.iload 5, 2) := by decide +kernel
theorem dX3_readItem_63 : decode cX3_readItem 63 = .ok (.invokevirtual 51, 3) := by decide +kernel
theorem dX3_readItem_66 : decode cX3_readItem 66 = .ok (.istore 5, 2) := by decide +kernel
theorem dX3_readItem_68 : decode cX3_readItem 68 = .ok (.iload 4, 2) := by decide +kernel
theorem dX3_readItem_70 : decode cX3_readItem 70 = .ok (.invokestatic 23, 3) := by decide +kernel
theorem dX3_readItem_73 : decode cX3_readItem 73 = .ok (.ifCond .eq 14, 3) := by decide +kernel
theorem dX3_readItem_76 : decode cX3_readItem 76 = .ok (.aload_n 0, 1) := by decide +kernel
theorem dX3_readItem_77 : decode cX3_readItem 77 = .ok (.iload 5, 2) := by decide +kernel
theorem dX3_readItem_79 : decode cX3_readItem 79 = .ok (.invokevirtual 37, 3) := by decide +kernel
theorem dX3_readItem_82 : decode cX3_readItem 82 = .ok (.bipush 59, 2) := by decide +kernel
theorem dX3_readItem_84 : decode cX3_readItem 84 = .ok (.if_icmp .eq 5, 3) := by decide +kernel
theorem dX3_readItem_87 : decode cX3_readItem 87 = .ok (.iconst (-1), 1) := by decide +kernel
theorem dX3_readItem_88 : decode cX3_readItem 88 = .ok (.ireturn, 1) := by decide +kernel
theorem dX3_readItem_89 : decode cX3_readItem 89 = .ok (.aload_n 0, 1) := by decide +kernel
theorem dX3_readItem_90 : decode cX3_readItem 90 = .ok (.getfield 15, 3) := by decide +kernel
theorem dX3_readItem_93 : decode cX3_readItem 93 = .ok (.iload 4, 2) := by decide +kernel
theorem dX3_readItem_95 : decode cX3_readItem 95 = .ok (.aload_n 0, 1) := by decide +kernel
theorem dX3_readItem_96 : decode cX3_readItem 96 = .ok (.getfield 47, 3) := by decide +kernel
theorem dX3_readItem_99 : decode cX3_readItem 99 = .ok (.lastore, 1) := by decide +kernel
theorem dX3_readItem_100 : decode cX3_readItem 100 = .ok (.iload 5, 2) := by decide +kernel
theorem dX3_readItem_102 : decode cX3_readItem 102 = .ok (.iconst 1, 1) := by decide +kernel
theorem dX3_readItem_103 : decode cX3_readItem 103 = .ok (.iadd, 1) := by decide +kernel
theorem dX3_readItem_104 : decode cX3_readItem 104 = .ok (.ireturn, 1) := by decide +kernel
set_option maxRecDepth 20000 in
theorem ggX3_readNumbers_X3_letterAt : GoodIn wsX3_readNumbers wsX3_letterAt := goodIn_r _ [7, 1, 8, 24, 25, 26, 27] (by decide +kernel) (by decide +kernel)
set_option maxRecDepth 20000 in
theorem gX3_readNumbers_X3_letterAt : GoodIn wsX3_readNumbers (wsV RX3 37 RX3 yX3_letterAt wsX3_letterAt) := goodIn_app (goodIn_of _ (by decide +kernel)) ggX3_readNumbers_X3_letterAt
set_option maxRecDepth 20000 in
theorem ggX3_readNumbers_X3_figuresAt : GoodIn wsX3_readNumbers wsX3_figuresAt := goodIn_r _ [12, 13, 14, 15, 6, 16, 3, 4, 5, 7, 1, 8, 24, 25, 26, 27] (by decide +kernel) (by decide +kernel)
set_option maxRecDepth 20000 in
theorem gX3_readNumbers_X3_figuresAt : GoodIn wsX3_readNumbers (wsV RX3 40 RX3 yX3_figuresAt wsX3_figuresAt) := goodIn_app (goodIn_of _ (by decide +kernel)) ggX3_readNumbers_X3_figuresAt
set_option maxRecDepth 20000 in
theorem ggX3_readNumbers_X3_valueAt : GoodIn wsX3_readNumbers wsX3_valueAt := goodIn_r _ [20, 3, 4, 5, 6, 7, 1, 8, 24, 25, 26, 27] (by decide +kernel) (by decide +kernel)
set_option maxRecDepth 20000 in
theorem gX3_readNumbers_X3_valueAt : GoodIn wsX3_readNumbers (wsV RX3 43 RX3 yX3_valueAt wsX3_valueAt) := goodIn_app (goodIn_of _ (by decide +kernel)) ggX3_readNumbers_X3_valueAt
set_option maxRecDepth 20000 in
theorem ggX3_readNumbers_X7_isNumber : GoodIn wsX3_readNumbers wsX7_isNumber := goodIn_r _ [23] (by decide +kernel) (by decide +kernel)
set_option maxRecDepth 20000 in
theorem gX3_readNumbers_X7_isNumber_n54 : GoodIn wsX3_readNumbers (wsX7_isNumber) := ggX3_readNumbers_X7_isNumber
theorem dX3_readNumbers_0 : decode cX3_readNumbers 0 = .ok (.iload_n 1, 1) := by decide +kernel
theorem dX3_readNumbers_1 : decode cX3_readNumbers 1 = .ok (.istore_n 2, 1) := by decide +kernel
theorem dX3_readNumbers_2 : decode cX3_readNumbers 2 = .ok (.iconst (-1), 1) := by decide +kernel
theorem dX3_readNumbers_3 : decode cX3_readNumbers 3 = .ok (.istore_n 3, 1) := by decide +kernel
theorem dX3_readNumbers_4 : decode cX3_readNumbers 4 = .ok (.iload_n 2, 1) := by decide +kernel
theorem dX3_readNumbers_5 : decode cX3_readNumbers 5 = .ok (.aload_n 0, 1) := by decide +kernel
theorem dX3_readNumbers_6 : decode cX3_readNumbers 6 = .ok (.getfield 19, 3) := by decide +kernel
theorem dX3_readNumbers_9 : decode cX3_readNumbers 9 = .ok (.if_icmp .ge 80, 3) := by decide +kernel
theorem dX3_readNumbers_12 : decode cX3_readNumbers 12 = .ok (.aload_n 0, 1) := by decide +kernel
theorem dX3_readNumbers_13 : decode cX3_readNumbers 13 = .ok (.iload_n 2, 1) := by decide +kernel
theorem dX3_readNumbers_14 : decode cX3_readNumbers 14 = .ok (.invokevirtual 37, 3) := by decide +kernel
theorem dX3_readNumbers_17 : decode cX3_readNumbers 17 = .ok (.bipush 44, 2) := by decide +kernel
theorem dX3_readNumbers_19 : decode cX3_readNumbers 19 = .ok (.if_icmp .ne 70, 3) := by decide +kernel
theorem dX3_readNumbers_22 : decode cX3_readNumbers 22 = .ok (.aload_n 0, 1) := by decide +kernel
theorem dX3_readNumbers_23 : decode cX3_readNumbers 23 = .ok (.iload_n 2, 1) := by decide +kernel
theorem dX3_readNumbers_24 : decode cX3_readNumbers 24 = .ok (.iconst 1, 1) := by decide +kernel
theorem dX3_readNumbers_25 : decode cX3_readNumbers 25 = .ok (.iadd, 1) := by decide +kernel
theorem dX3_readNumbers_26 : decode cX3_readNumbers 26 = .ok (.invokevirtual 40, 3) := by decide +kernel
theorem dX3_readNumbers_29 : decode cX3_readNumbers 29 = .ok (.istore 4, 2) := by decide +kernel
theorem dX3_readNumbers_31 : decode cX3_readNumbers 31 = .ok (.aload_n 0, 1) := by decide +kernel
theorem dX3_readNumbers_32 : decode cX3_readNumbers 32 = .ok (.iload_n 2, 1) := by decide +kernel
theorem dX3_readNumbers_33 : decode cX3_readNumbers 33 = .ok (.iconst 1, 1) := by decide +kernel
theorem dX3_readNumbers_34 : decode cX3_readNumbers 34 = .ok (.iadd, 1) := by decide +kernel
theorem dX3_readNumbers_35 : decode cX3_readNumbers 35 = .ok (.iload 4, 2) := by decide +kernel
theorem dX3_readNumbers_37 : decode cX3_readNumbers 37 = .ok (.invokevirtual 43, 3) := by decide +kernel
theorem dX3_readNumbers_40 : decode cX3_readNumbers 40 = .ok (.istore 5, 2) := by decide +kernel
theorem dX3_readNumbers_42 : decode cX3_readNumbers 42 = .ok (.iload 4, 2) := by decide +kernel
theorem dX3_readNumbers_44 : decode cX3_readNumbers 44 = .ok (.ifCond .eq 17, 3) := by decide +kernel
theorem dX3_readNumbers_47 : decode cX3_readNumbers 47 = .ok (.iload 5, 2) := by decide +kernel
theorem dX3_readNumbers_49 : decode cX3_readNumbers 49 = .ok (.invokestatic 54, 3) := by decide +kernel
theorem dX3_readNumbers_52 : decode cX3_readNumbers 52 = .ok (.ifCond .eq 9, 3) := by decide +kernel
theorem dX3_readNumbers_55 : decode cX3_readNumbers 55 = .ok (.iload 5, 2) := by decide +kernel
theorem dX3_readNumbers_57 : decode cX3_readNumbers 57 = .ok (.iload_n 3, 1) := by decide +kernel
theorem dX3_readNumbers_58 : decode cX3_readNumbers 58 = .ok (.if_icmp .gt 5, 3) := by decide +kernel
theorem dX3_readNumbers_61 : decode cX3_readNumbers 61 = .ok (.iconst (-1), 1) := by decide +kernel
theorem dX3_readNumbers_62 : decode cX3_readNumbers 62 = .ok (.ireturn, 1) := by decide +kernel
theorem dX3_readNumbers_63 : decode cX3_readNumbers 63 = .ok (.aload_n 0, 1) := by decide +kernel
theorem dX3_readNumbers_64 : decode cX3_readNumbers 64 = .ok (.dup, 1) := by decide +kernel
theorem dX3_readNumbers_65 : decode cX3_readNumbers 65 = .ok (.getfield 47, 3) := by decide +kernel
theorem dX3_readNumbers_68 : decode cX3_readNumbers 68 = .ok (.lconst 1, 1) := by decide +kernel
theorem dX3_readNumbers_69 : decode cX3_readNumbers 69 = .ok (.iload 5, 2) := by decide +kernel
theorem dX3_readNumbers_71 : decode cX3_readNumbers 71 = .ok (.lshl, 1) := by decide +kernel
theorem dX3_readNumbers_72 : decode cX3_readNumbers 72 = .ok (.lor, 1) := by decide +kernel
theorem dX3_readNumbers_73 : decode cX3_readNumbers 73 = .ok (.putfield 47, 3) := by decide +kernel
theorem dX3_readNumbers_76 : decode cX3_readNumbers 76 = .ok (.iload 5, 2) := by decide +kernel
theorem dX3_readNumbers_78 : decode cX3_readNumbers 78 = .ok (.istore_n 3, 1) := by decide +kernel
theorem dX3_readNumbers_79 : decode cX3_readNumbers 79 = .ok (.iload_n 2, 1) := by decide +kernel
theorem dX3_readNumbers_80 : decode cX3_readNumbers 80 = .ok (.iconst 1, 1) := by decide +kernel
theorem dX3_readNumbers_81 : decode cX3_readNumbers 81 = .ok (.iload 4, 2) := by decide +kernel
theorem dX3_readNumbers_83 : decode cX3_readNumbers 83 = .ok (.iadd, 1) := by decide +kernel
theorem dX3_readNumbers_84 : decode cX3_readNumbers 84 = .ok (.iadd, 1) := by decide +kernel
theorem dX3_readNumbers_85 : decode cX3_readNumbers 85 = .ok (.istore_n 2, 1) := by decide +kernel
theorem dX3_readNumbers_86 : decode cX3_readNumbers 86 = .ok (.goto (-82), 3) := by decide +kernel
theorem dX3_readNumbers_89 : decode cX3_readNumbers 89 = .ok (.iload_n 3, 1) := by decide +kernel
theorem dX3_readNumbers_90 : decode cX3_readNumbers 90 = .ok (.ifCond .ge 7, 3) := by decide +kernel
theorem dX3_readNumbers_93 : decode cX3_readNumbers 93 = .ok (.iconst (-1), 1) := by decide +kernel
theorem dX3_readNumbers_94 : decode cX3_readNumbers 94 = .ok (.goto 4, 3) := by decide +kernel
theorem dX3_readNumbers_97 : decode cX3_readNumbers 97 = .ok (.iload_n 2, 1) := by decide +kernel
theorem dX3_readNumbers_98 : decode cX3_readNumbers 98 = .ok (.ireturn, 1) := by decide +kernel
theorem dX3_letterAt_0 : decode cX3_letterAt 0 = .ok (.iload_n 1, 1) := by decide +kernel
theorem dX3_letterAt_1 : decode cX3_letterAt 1 = .ok (.ifCond .lt 27, 3) := by decide +kernel
theorem dX3_letterAt_4 : decode cX3_letterAt 4 = .ok (.iload_n 1, 1) := by decide +kernel
theorem dX3_letterAt_5 : decode cX3_letterAt 5 = .ok (.aload_n 0, 1) := by decide +kernel
theorem dX3_letterAt_6 : decode cX3_letterAt 6 = .ok (.getfield 19, 3) := by decide +kernel
theorem dX3_letterAt_9 : decode cX3_letterAt 9 = .ok (.if_icmp .ge 19, 3) := by decide +kernel
theorem dX3_letterAt_12 : decode cX3_letterAt 12 = .ok (.iload_n 1, 1) := by decide +kernel
theorem dX3_letterAt_13 : decode cX3_letterAt 13 = .ok (.sipush 200, 3) := by decide +kernel
theorem dX3_letterAt_16 : decode cX3_letterAt 16 = .ok (.if_icmp .ge 12, 3) := by decide +kernel
theorem dX3_letterAt_19 : decode cX3_letterAt 19 = .ok (.aload_n 0, 1) := by decide +kernel
theorem dX3_letterAt_20 : decode cX3_letterAt 20 = .ok (.getfield 11, 3) := by decide +kernel
theorem dX3_letterAt_23 : decode cX3_letterAt 23 = .ok (.iload_n 1, 1) := by decide +kernel
theorem dX3_letterAt_24 : decode cX3_letterAt 24 = .ok (.caload, 1) := by decide +kernel
theorem dX3_letterAt_25 : decode cX3_letterAt 25 = .ok (.goto 4, 3) := by decide +kernel
theorem dX3_letterAt_28 : decode cX3_letterAt 28 = .ok (.iconst 0, 1) := by decide +kernel
theorem dX3_letterAt_29 : decode cX3_letterAt 29 = .ok (.ireturn, 1) := by decide +kernel
set_option maxRecDepth 20000 in
theorem ggX3_isFigure_X3_letterAt : GoodIn wsX3_isFigure wsX3_letterAt := goodIn_r _ [5, 6, 7, 8, 9, 10, 11] (by decide +kernel) (by decide +kernel)
set_option maxRecDepth 20000 in
theorem gX3_isFigure_X3_letterAt : GoodIn wsX3_isFigure (wsV RX3 37 RX3 yX3_letterAt wsX3_letterAt) := goodIn_app (goodIn_of _ (by decide +kernel)) ggX3_isFigure_X3_letterAt
theorem dX3_isFigure_0 : decode cX3_isFigure 0 = .ok (.aload_n 0, 1) := by decide +kernel
theorem dX3_isFigure_1 : decode cX3_isFigure 1 = .ok (.iload_n 1, 1) := by decide +kernel
theorem dX3_isFigure_2 : decode cX3_isFigure 2 = .ok (.invokevirtual 37, 3) := by decide +kernel
theorem dX3_isFigure_5 : decode cX3_isFigure 5 = .ok (.istore_n 2, 1) := by decide +kernel
theorem dX3_isFigure_6 : decode cX3_isFigure 6 = .ok (.iload_n 2, 1) := by decide +kernel
theorem dX3_isFigure_7 : decode cX3_isFigure 7 = .ok (.bipush 48, 2) := by decide +kernel
theorem dX3_isFigure_9 : decode cX3_isFigure 9 = .ok (.if_icmp .lt 13, 3) := by decide +kernel
theorem dX3_isFigure_12 : decode cX3_isFigure 12 = .ok (.iload_n 2, 1) := by decide +kernel
theorem dX3_isFigure_13 : decode cX3_isFigure 13 = .ok (.bipush 57, 2) := by decide +kernel
theorem dX3_isFigure_15 : decode cX3_isFigure 15 = .ok (.if_icmp .gt 7, 3) := by decide +kernel
theorem dX3_isFigure_18 : decode cX3_isFigure 18 = .ok (.iconst 1, 1) := by decide +kernel
theorem dX3_isFigure_19 : decode cX3_isFigure 19 = .ok (.goto 4, 3) := by decide +kernel
theorem dX3_isFigure_22 : decode cX3_isFigure 22 = .ok (.iconst 0, 1) := by decide +kernel
theorem dX3_isFigure_23 : decode cX3_isFigure 23 = .ok (.ireturn, 1) := by decide +kernel
set_option maxRecDepth 20000 in
theorem ggX3_figuresAt_X3_isFigure : GoodIn wsX3_figuresAt wsX3_isFigure := goodIn_r _ [5, 6, 7, 8, 4, 9, 10, 11, 12, 13, 14, 15] (by decide +kernel) (by decide +kernel)
set_option maxRecDepth 20000 in
theorem gX3_figuresAt_X3_isFigure : GoodIn wsX3_figuresAt (wsV RX3 57 RX3 yX3_isFigure wsX3_isFigure) := goodIn_app (goodIn_of _ (by decide +kernel)) ggX3_figuresAt_X3_isFigure
theorem dX3_figuresAt_0 : decode cX3_figuresAt 0 = .ok (.aload_n 0, 1) := by decide +kernel
theorem dX3_figuresAt_1 : decode cX3_figuresAt 1 = .ok (.iload_n 1, 1) := by decide +kernel
theorem dX3_figuresAt_2 : decode cX3_figuresAt 2 = .ok (.invokevirtual 57, 3) := by decide +kernel
theorem dX3_figuresAt_5 : decode cX3_figuresAt 5 = .ok (.ifCond .ne 5, 3) := by decide +kernel
theorem dX3_figuresAt_8 : decode cX3_figuresAt 8 = .ok (.iconst 0, 1) := by decide +kernel
theorem dX3_figuresAt_9 : decode cX3_figuresAt 9 = .ok (.ireturn, 1) := by decide +kernel
theorem dX3_figuresAt_10 : decode cX3_figuresAt 10 = .ok (.aload_n 0, 1) := by decide +kernel
theorem dX3_figuresAt_11 : decode cX3_figuresAt 11 = .ok (.iload_n 1, 1) := by decide +kernel
theorem dX3_figuresAt_12 : decode cX3_figuresAt 12 = .ok (.iconst 1, 1) := by decide +kernel
theorem dX3_figuresAt_13 : decode cX3_figuresAt 13 = .ok (.iadd, 1) := by decide +kernel
theorem dX3_figuresAt_14 : decode cX3_figuresAt 14 = .ok (.invokevirtual 57, 3) := by decide +kernel
theorem dX3_figuresAt_17 : decode cX3_figuresAt 17 = .ok (.ifCond .eq 7, 3) := by decide +kernel
theorem dX3_figuresAt_20 : decode cX3_figuresAt 20 = .ok (.iconst 2, 1) := by decide +kernel
theorem dX3_figuresAt_21 : decode cX3_figuresAt 21 = .ok (.goto 4, 3) := by decide +kernel
theorem dX3_figuresAt_24 : decode cX3_figuresAt 24 = .ok (.iconst 1, 1) := by decide +kernel
theorem dX3_figuresAt_25 : decode cX3_figuresAt 25 = .ok (.ireturn, 1) := by decide +kernel
set_option maxRecDepth 20000 in
theorem ggX3_valueAt_X3_letterAt : GoodIn wsX3_valueAt wsX3_letterAt := goodIn_r _ [5, 6, 7, 8, 9, 10, 11] (by decide +kernel) (by decide +kernel)
set_option maxRecDepth 20000 in
theorem gX3_valueAt_X3_letterAt : GoodIn wsX3_valueAt (wsV RX3 37 RX3 yX3_letterAt wsX3_letterAt) := goodIn_app (goodIn_of _ (by decide +kernel)) ggX3_valueAt_X3_letterAt
theorem dX3_valueAt_0 : decode cX3_valueAt 0 = .ok (.iconst 0, 1) := by decide +kernel
theorem dX3_valueAt_1 : decode cX3_valueAt 1 = .ok (.istore_n 3, 1) := by decide +kernel
theorem dX3_valueAt_2 : decode cX3_valueAt 2 = .ok (.iconst 0, 1) := by decide +kernel
theorem dX3_valueAt_3 : decode cX3_valueAt 3 = .ok (.istore 4, 2) := by decide +kernel
theorem dX3_valueAt_5 : decode cX3_valueAt 5 = .ok (.iload 4, 2) := by decide +kernel
theorem dX3_valueAt_7 : decode cX3_valueAt 7 = .ok (.iload_n 2, 1) := by decide +kernel
theorem dX3_valueAt_8 : decode cX3_valueAt 8 = .ok (.if_icmp .ge 26, 3) := by decide +kernel
theorem dX3_valueAt_11 : decode cX3_valueAt 11 = .ok (.bipush 10, 2) := by decide +kernel
theorem dX3_valueAt_13 : decode cX3_valueAt 13 = .ok (.iload_n 3, 1) := by decide +kernel
theorem dX3_valueAt_14 : decode cX3_valueAt 14 = .ok (.imul, 1) := by decide +kernel
theorem dX3_valueAt_15 : decode cX3_valueAt 15 = .ok (.aload_n 0, 1) := by decide +kernel
theorem dX3_valueAt_16 : decode cX3_valueAt 16 = .ok (.iload_n 1, 1) := by decide +kernel
theorem dX3_valueAt_17 : decode cX3_valueAt 17 = .ok (.iload 4, 2) := by decide +kernel
theorem dX3_valueAt_19 : decode cX3_valueAt 19 = .ok (.iadd, 1) := by decide +kernel
theorem dX3_valueAt_20 : decode cX3_valueAt 20 = .ok (.invokevirtual 37, 3) := by decide +kernel
theorem dX3_valueAt_23 : decode cX3_valueAt 23 = .ok (.iadd, 1) := by decide +kernel
theorem dX3_valueAt_24 : decode cX3_valueAt 24 = .ok (.bipush 48, 2) := by decide +kernel
theorem dX3_valueAt_26 : decode cX3_valueAt 26 = .ok (.isub, 1) := by decide +kernel
theorem dX3_valueAt_27 : decode cX3_valueAt 27 = .ok (.istore_n 3, 1) := by decide +kernel
theorem dX3_valueAt_28 : decode cX3_valueAt 28 = .ok (.iinc 4 1, 3) := by decide +kernel
theorem dX3_valueAt_31 : decode cX3_valueAt 31 = .ok (.goto (-26), 3) := by decide +kernel
theorem dX3_valueAt_34 : decode cX3_valueAt 34 = .ok (.iload_n 3, 1) := by decide +kernel
theorem dX3_valueAt_35 : decode cX3_valueAt 35 = .ok (.ireturn, 1) := by decide +kernel
