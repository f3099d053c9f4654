set_option maxRecDepth 20000 in
theorem ggX7_init_X3_init : GoodIn wsX7_init wsX3_init := goodIn_r _ [41, 42, 2, 3, 43, 44, 4, 45, 88, 89, 90, 91] (by decide +kernel) (by decide +kernel)
set_option maxRecDepth 20000 in
theorem gX7_init_X3_init_n15 : GoodIn wsX7_init (wsX3_init) := ggX7_init_X3_init
set_option maxRecDepth 20000 in
theorem ggX7_init_X1_init : GoodIn wsX7_init wsX1_init := goodIn_r _ [47, 48, 2, 3, 49, 50, 4, 51, 92, 93, 94] (by decide +kernel) (by decide +kernel)
set_option maxRecDepth 20000 in
theorem gX7_init_X1_init_n22 : GoodIn wsX7_init (wsX1_init) := ggX7_init_X1_init
set_option maxRecDepth 20000 in
theorem ggX7_init_X6_init : GoodIn wsX7_init wsX6_init := goodIn_r _ [53, 54, 2, 3, 4, 55, 95] (by decide +kernel) (by decide +kernel)
set_option maxRecDepth 20000 in
theorem gX7_init_X6_init_n29 : GoodIn wsX7_init (wsX6_init) := ggX7_init_X6_init
set_option maxRecDepth 20000 in
theorem ggX7_init_X0_init : GoodIn wsX7_init wsX0_init := goodIn_r _ [57, 58, 2, 3, 49, 59, 96, 97, 98, 99, 100, 101, 102, 103, 104, 105, 106] (by decide +kernel) (by decide +kernel)
set_option maxRecDepth 20000 in
theorem gX7_init_X0_init_n39 : GoodIn wsX7_init (wsX0_init) := ggX7_init_X0_init
set_option maxRecDepth 20000 in
theorem ggX7_init_X2_init : GoodIn wsX7_init wsX2_init := goodIn_r _ [61, 62, 2, 3, 49, 63, 64, 65, 66, 67, 68, 69, 107, 108, 109, 110, 111, 112, 113, 114, 115, 116, 117, 118] (by decide +kernel) (by decide +kernel)
set_option maxRecDepth 20000 in
theorem gX7_init_X2_init_n46 : GoodIn wsX7_init (wsX2_init) := ggX7_init_X2_init
set_option maxRecDepth 20000 in
theorem ggX7_init_X5_init : GoodIn wsX7_init wsX5_init := goodIn_r _ [71, 72, 2, 3, 49, 73, 4, 74, 75, 119, 120, 121, 122, 123, 124, 125, 126] (by decide +kernel) (by decide +kernel)
set_option maxRecDepth 20000 in
theorem gX7_init_X5_init_n53 : GoodIn wsX7_init (wsX5_init) := ggX7_init_X5_init
set_option maxRecDepth 20000 in
theorem ggX7_init_X4_init : GoodIn wsX7_init wsX4_init := goodIn_r _ [77, 78, 2, 3] (by decide +kernel) (by decide +kernel)
set_option maxRecDepth 20000 in
theorem gX7_init_X4_init_n60 : GoodIn wsX7_init (wsX4_init) := ggX7_init_X4_init
theorem dX7_init_0 : decode cX7_init 0 = .ok (.aload_n 0, 1) := by decide +kernel
theorem dX7_init_1 : decode cX7_init 1 = .ok (.invokespecial 1, 3) := by decide +kernel
theorem dX7_init_4 : decode cX7_init 4 = .ok (.aload_n 0, 1) := by decide +kernel
theorem dX7_init_5 : decode cX7_init 5 = .ok (.iconst 4, 1) := by decide +kernel
theorem dX7_init_6 : decode cX7_init 6 = .ok (.newarray .long, 2) := by decide +kernel
theorem dX7_init_8 : decode cX7_init 8 = .ok (.putfield 9, 3) := by decide +kernel
theorem dX7_init_11 : decode cX7_init 11 = .ok (.aload_n 0, 1) := by decide +kernel
theorem dX7_init_12 : decode cX7_init 12 = .ok (.new 13, 3) := by decide +kernel
theorem dX7_init_15 : decode cX7_init 15 = .ok (.dup, 1) := by decide +kernel
theorem dX7_init_16 : decode cX7_init 16 = .ok (.invokespecial 15, 3) := by decide +kernel
theorem dX7_init_19 : decode cX7_init 19 = .ok (.putfield 16, 3) := by decide +kernel
theorem dX7_init_22 : decode cX7_init 22 = .ok (.aload_n 0, 1) := by decide +kernel
theorem dX7_init_23 : decode cX7_init 23 = .ok (.new 20, 3) := by decide +kernel
theorem dX7_init_26 : decode cX7_init 26 = .ok (.dup, 1) := by decide +kernel
theorem dX7_init_27 : decode cX7_init 27 = .ok (.invokespecial 22, 3) := by decide +kernel
theorem dX7_init_30 : decode cX7_init 30 = .ok (.putfield 23, 3) := by decide +kernel
theorem dX7_init_33 : decode cX7_init 33 = .ok (.aload_n 0, 1) := by decide +kernel
theorem dX7_init_34 : decode cX7_init 34 = .ok (.new 27, 3) := by decide +kernel
theorem dX7_init_37 : decode cX7_init 37 = .ok (.dup, 1) := by decide +kernel
theorem dX7_init_38 : decode cX7_init 38 = .ok (.invokespecial 29, 3) := by decide +kernel
theorem dX7_init_41 : decode cX7_init 41 = .ok (.putfield 30, 3) := by decide +kernel
theorem dX7_init_44 : decode cX7_init 44 = .ok (.aload_n 0, 1) := by decide +kernel
theorem dX7_init_45 : decode cX7_init 45 = .ok (.new 27, 3) := by decide +kernel
theorem dX7_init_48 : decode cX7_init 48 = .ok (.dup, 1) := by decide +kernel
theorem dX7_init_49 : decode cX7_init 49 = .ok (.invokespecial 29, 3) := by decide +kernel
theorem dX7_init_52 : decode cX7_init 52 = .ok (.putfield 34, 3) := by decide +kernel
theorem dX7_init_55 : decode cX7_init 55 = .ok (.aload_n 0, 1) := by decide +kernel
theorem dX7_init_56 : decode cX7_init 56 = .ok (.new 37, 3) := by decide +kernel
theorem dX7_init_59 : decode cX7_init 59 = .ok (.dup, 1) := by decide +kernel
theorem dX7_init_60 : decode cX7_init 60 = .ok (.invokespecial 39, 3) := by decide +kernel
theorem dX7_init_63 : decode cX7_init 63 = .ok (.putfield 40, 3) := by decide +kernel
theorem dX7_init_66 : decode cX7_init 66 = .ok (.aload_n 0, 1) := by decide +kernel
theorem dX7_init_67 : decode cX7_init 67 = .ok (.new 44, 3) := by decide +kernel
theorem dX7_init_70 : decode cX7_init 70 = .ok (.dup, 1) := by decide +kernel
theorem dX7_init_71 : decode cX7_init 71 = .ok (.invokespecial 46, 3) := by decide +kernel
theorem dX7_init_74 : decode cX7_init 74 = .ok (.putfield 47, 3) := by decide +kernel
theorem dX7_init_77 : decode cX7_init 77 = .ok (.aload_n 0, 1) := by decide +kernel
theorem dX7_init_78 : decode cX7_init 78 = .ok (.new 51, 3) := by decide +kernel
theorem dX7_init_81 : decode cX7_init 81 = .ok (.dup, 1) := by decide +kernel
theorem dX7_init_82 : decode cX7_init 82 = .ok (.invokespecial 53, 3) := by decide +kernel
theorem dX7_init_85 : decode cX7_init 85 = .ok (.putfield 54, 3) := by decide +kernel
theorem dX7_init_88 : decode cX7_init 88 = .ok (.aload_n 0, 1) := by decide +kernel
theorem dX7_init_89 : decode cX7_init 89 = .ok (.new 58, 3) := by decide +kernel
theorem dX7_init_92 : decode cX7_init 92 = .ok (.dup, 1) := by decide +kernel
theorem dX7_init_93 : decode cX7_init 93 = .ok (.invokespecial 60, 3) := by decide +kernel
theorem dX7_init_96 : decode cX7_init 96 = .ok (.putfield 61, 3) := by decide +kernel
theorem dX7_init_99 : decode cX7_init 99 = .ok (.getstatic 65, 3) := by decide +kernel
theorem dX7_init_102 : decode cX7_init 102 = .ok (.iconst 0, 1) := by decide +kernel
theorem dX7_init_103 : decode cX7_init 103 = .ok (.aload_n 0, 1) := by decide +kernel
theorem dX7_init_104 : decode cX7_init 104 = .ok (.getfield 9, 3) := by decide +kernel
theorem dX7_init_107 : decode cX7_init 107 = .ok (.iconst 0, 1) := by decide +kernel
theorem dX7_init_108 : decode cX7_init 108 = .ok (.iconst 4, 1) := by decide +kernel
theorem dX7_init_109 : decode cX7_init 109 = .ok (.invokestatic 68, 3) := by decide +kernel
theorem dX7_init_112 : decode cX7_init 112 = .ok (.return_, 1) := by decide +kernel
set_option maxRecDepth 20000 in
theorem ggX7_write_X3_append : GoodIn wsX7_write wsX3_append := goodIn_r _ [6, 7, 8, 22, 23, 24, 25] (by decide +kernel) (by decide +kernel)
set_option maxRecDepth 20000 in
theorem gX7_write_X3_append : GoodIn wsX7_write (wsV RX7 74 RX3 yX3_append wsX3_append) := goodIn_app (goodIn_of _ (by decide +kernel)) ggX7_write_X3_append
set_option maxRecDepth 20000 in
theorem ggX7_write_X3_length : GoodIn wsX7_write wsX3_length := goodIn_r _ [12, 7, 22, 23, 24, 25] (by decide +kernel) (by decide +kernel)
set_option maxRecDepth 20000 in
theorem gX7_write_X3_length : GoodIn wsX7_write (wsV RX7 78 RX3 yX3_length wsX3_length) := goodIn_app (goodIn_of _ (by decide +kernel)) ggX7_write_X3_length
theorem dX7_write_0 : decode cX7_write 0 = .ok (.iload_n 1, 1) := by decide +kernel
theorem dX7_write_1 : decode cX7_write 1 = .ok (.bipush 32, 2) := by decide +kernel
theorem dX7_write_3 : decode cX7_write 3 = .ok (.if_icmp .lt 9, 3) := by decide +kernel
theorem dX7_write_6 : decode cX7_write 6 = .ok (.iload_n 1, 1) := by decide +kernel
theorem dX7_write_7 : decode cX7_write 7 = .ok (.bipush 126, 2) := by decide +kernel
theorem dX7_write_9 : decode cX7_write 9 = .ok (.if_icmp .le 5, 3) := by decide +kernel
theorem dX7_write_12 : decode cX7_write 12 = .ok (.iconst (-1), 1) := by decide +kernel
theorem dX7_write_13 : decode cX7_write 13 = .ok (.ireturn, 1) := by decide +kernel
theorem dX7_write_14 : decode cX7_write 14 = .ok (.aload_n 0, 1) := by decide +kernel
theorem dX7_write_15 : decode cX7_write 15 = .ok (.getfield 16, 3) := by decide +kernel
theorem dX7_write_18 : decode cX7_write 18 = .ok (.iload_n 1, 1) := by decide +kernel
theorem dX7_write_19 : decode cX7_write 19 = .ok (.invokevirtual 74, 3) := by decide +kernel
theorem dX7_write_22 : decode cX7_write 22 = .ok (.ifCond .eq 13, 3) := by decide +kernel
theorem dX7_write_25 : decode cX7_write 25 = .ok (.aload_n 0, 1) := by decide +kernel
theorem dX7_write_26 : decode cX7_write 26 = .ok (.getfield 16, 3) := by decide +kernel
theorem dX7_write_29 : decode cX7_write 29 = .ok (.invokevirtual 78, 3) := by decide +kernel
theorem dX7_write_32 : decode cX7_write 32 = .ok (.goto 5, 3) := by decide +kernel
theorem dX7_write_35 : decode cX7_write 35 = .ok (.bipush (-3), 2) := by decide +kernel
theorem dX7_write_37 : decode cX7_write 37 = .ok (.ireturn, 1) := by decide +kernel
set_option maxRecDepth 20000 in
theorem ggX7_wipe_X3_length : GoodIn wsX7_wipe wsX3_length := goodIn_r _ [6, 7, 21, 22, 23, 24] (by decide +kernel) (by decide +kernel)
set_option maxRecDepth 20000 in
theorem gX7_wipe_X3_length : GoodIn wsX7_wipe (wsV RX7 78 RX3 yX3_length wsX3_length) := goodIn_app (goodIn_of _ (by decide +kernel)) ggX7_wipe_X3_length
set_option maxRecDepth 20000 in
theorem ggX7_wipe_X3_clear : GoodIn wsX7_wipe wsX3_clear := goodIn_r _ [11, 7, 21, 22, 23, 24] (by decide +kernel) (by decide +kernel)
set_option maxRecDepth 20000 in
theorem gX7_wipe_X3_clear : GoodIn wsX7_wipe (wsV RX7 82 RX3 yX3_clear wsX3_clear) := goodIn_app (goodIn_of _ (by decide +kernel)) ggX7_wipe_X3_clear
theorem dX7_wipe_0 : decode cX7_wipe 0 = .ok (.aload_n 0, 1) := by decide +kernel
theorem dX7_wipe_1 : decode cX7_wipe 1 = .ok (.getfield 16, 3) := by decide +kernel
theorem dX7_wipe_4 : decode cX7_wipe 4 = .ok (.invokevirtual 78, 3) := by decide +kernel
theorem dX7_wipe_7 : decode cX7_wipe 7 = .ok (.istore_n 1, 1) := by decide +kernel
theorem dX7_wipe_8 : decode cX7_wipe 8 = .ok (.aload_n 0, 1) := by decide +kernel
theorem dX7_wipe_9 : decode cX7_wipe 9 = .ok (.getfield 16, 3) := by decide +kernel
theorem dX7_wipe_12 : decode cX7_wipe 12 = .ok (.invokevirtual 82, 3) := by decide +kernel
theorem dX7_wipe_15 : decode cX7_wipe 15 = .ok (.iload_n 1, 1) := by decide +kernel
theorem dX7_wipe_16 : decode cX7_wipe 16 = .ok (.ireturn, 1) := by decide +kernel
set_option maxRecDepth 20000 in
theorem ggX7_fault_X3_read : GoodIn wsX7_fault wsX3_read := goodIn_r _ [6, 7, 8, 9, 10, 11, 12, 13, 14, 15, 5, 16, 17, 18, 19, 20, 21, 22, 23, 24, 25, 26, 27, 28, 29, 30, 31, 32, 33, 34, 35, 36, 37, 38, 39, 40, 41, 42, 43, 53, 54, 55, 56] (by decide +kernel) (by decide +kernel)
set_option maxRecDepth 20000 in
theorem gX7_fault_X3_read : GoodIn wsX7_fault (wsV RX7 85 RX3 yX3_read wsX3_read) := goodIn_app (goodIn_of _ (by decide +kernel)) ggX7_fault_X3_read
theorem dX7_fault_0 : decode cX7_fault 0 = .ok (.aload_n 0, 1) := by decide +kernel
theorem dX7_fault_1 : decode cX7_fault 1 = .ok (.getfield 16, 3) := by decide +kernel
theorem dX7_fault_4 : decode cX7_fault 4 = .ok (.invokevirtual 85, 3) := by decide +kernel
theorem dX7_fault_7 : decode cX7_fault 7 = .ok (.ireturn, 1) := by decide +kernel
set_option maxRecDepth 20000 in
theorem ggX7_lay_X3_read : GoodIn wsX7_lay wsX3_read := goodIn_r _ [8, 9, 10, 11, 12, 13, 14, 15, 16, 17, 7, 18, 19, 20, 21, 22, 23, 24, 25, 26, 27, 28, 29, 30, 31, 32, 33, 34, 35, 36, 37, 38, 39, 40, 41, 42, 43, 44, 45, 69, 70, 71, 72] (by decide +kernel) (by decide +kernel)
set_option maxRecDepth 20000 in
theorem gX7_lay_X3_read : GoodIn wsX7_lay (wsV RX7 85 RX3 yX3_read wsX3_read) := goodIn_app (goodIn_of _ (by decide +kernel)) ggX7_lay_X3_read
set_option maxRecDepth 20000 in
theorem ggX7_lay_X3_told : GoodIn wsX7_lay wsX3_told := goodIn_r _ [49, 9, 44, 42, 45, 69, 70, 71, 72] (by decide +kernel) (by decide +kernel)
set_option maxRecDepth 20000 in
theorem gX7_lay_X3_told : GoodIn wsX7_lay (wsV RX7 88 RX3 yX3_told wsX3_told) := goodIn_app (goodIn_of _ (by decide +kernel)) ggX7_lay_X3_told
set_option maxRecDepth 20000 in
theorem ggX7_lay_X1_clear : GoodIn wsX7_lay wsX1_clear := goodIn_r _ [54, 55, 73, 74, 75] (by decide +kernel) (by decide +kernel)
set_option maxRecDepth 20000 in
theorem gX7_lay_X1_clear : GoodIn wsX7_lay (wsV RX7 92 RX1 yX1_clear wsX1_clear) := goodIn_app (goodIn_of _ (by decide +kernel)) ggX7_lay_X1_clear
set_option maxRecDepth 20000 in
theorem ggX7_lay_X7_slotsInUse : GoodIn wsX7_lay wsX7_slotsInUse := goodIn_r _ [59, 2, 60, 61, 62, 63, 64, 65, 66, 67, 68] (by decide +kernel) (by decide +kernel)
set_option maxRecDepth 20000 in
theorem gX7_lay_X7_slotsInUse : GoodIn wsX7_lay (wsV RX7 93 RX7 yX7_slotsInUse wsX7_slotsInUse) := goodIn_app (goodIn_of _ (by decide +kernel)) ggX7_lay_X7_slotsInUse
theorem dX7_lay_0 : decode cX7_lay 0 = .ok (.aload_n 0, 1) := by decide +kernel
theorem dX7_lay_1 : decode cX7_lay 1 = .ok (.getfield 16, 3) := by decide +kernel
theorem dX7_lay_4 : decode cX7_lay 4 = .ok (.invokevirtual 85, 3) := by decide +kernel
theorem dX7_lay_7 : decode cX7_lay 7 = .ok (.bipush (-4), 2) := by decide +kernel
theorem dX7_lay_9 : decode cX7_lay 9 = .ok (.if_icmp .eq 6, 3) := by decide +kernel
theorem dX7_lay_12 : decode cX7_lay 12 = .ok (.bipush (-2), 2) := by decide +kernel
theorem dX7_lay_14 : decode cX7_lay 14 = .ok (.ireturn, 1) := by decide +kernel
theorem dX7_lay_15 : decode cX7_lay 15 = .ok (.iconst 0, 1) := by decide +kernel
theorem dX7_lay_16 : decode cX7_lay 16 = .ok (.istore_n 1, 1) := by decide +kernel
theorem dX7_lay_17 : decode cX7_lay 17 = .ok (.iload_n 1, 1) := by decide +kernel
theorem dX7_lay_18 : decode cX7_lay 18 = .ok (.iconst 4, 1) := by decide +kernel
theorem dX7_lay_19 : decode cX7_lay 19 = .ok (.if_icmp .ge 23, 3) := by decide +kernel
theorem dX7_lay_22 : decode cX7_lay 22 = .ok (.aload_n 0, 1) := by decide +kernel
theorem dX7_lay_23 : decode cX7_lay 23 = .ok (.getfield 9, 3) := by decide +kernel
theorem dX7_lay_26 : decode cX7_lay 26 = .ok (.iload_n 1, 1) := by decide +kernel
theorem dX7_lay_27 : decode cX7_lay 27 = .ok (.aload_n 0, 1) := by decide +kernel
theorem dX7_lay_28 : decode cX7_lay 28 = .ok (.getfield 16, 3) := by decide +kernel
theorem dX7_lay_31 : decode cX7_lay 31 = .ok (.iload_n 1, 1) := by decide +kernel
theorem dX7_lay_32 : decode cX7_lay 32 = .ok (.invokevirtual 88, 3) := by decide +kernel
theorem dX7_lay_35 : decode cX7_lay 35 = .ok (.lastore, 1) := by decide +kernel
theorem dX7_lay_36 : decode cX7_lay 36 = .ok (.iinc 1 1, 3) := by decide +kernel
theorem dX7_lay_39 : decode cX7_lay 39 = .ok (.goto (-22), 3) := by decide +kernel
theorem dX7_lay_42 : decode cX7_lay 42 = .ok (.aload_n 0, 1) := by decide +kernel
theorem dX7_lay_43 : decode cX7_lay 43 = .ok (.getfield 23, 3) := by decide +kernel
theorem dX7_lay_46 : decode cX7_lay 46 = .ok (.invokevirtual 92, 3) := by decide +kernel
theorem dX7_lay_49 : decode cX7_lay 49 = .ok (.aload_n 0, 1) := by decide +kernel
theorem dX7_lay_50 : decode cX7_lay 50 = .ok (.invokevirtual 93, 3) := by decide +kernel
theorem dX7_lay_53 : decode cX7_lay 53 = .ok (.ireturn, 1) := by decide +kernel
set_option maxRecDepth 20000 in
theorem ggX7_put_X7_isSlot : GoodIn wsX7_put wsX7_isSlot := goodIn_r _ [5] (by decide +kernel) (by decide +kernel)
set_option maxRecDepth 20000 in
theorem gX7_put_X7_isSlot : GoodIn wsX7_put (va_wsS RX7 96 yX7_isSlot wsX7_isSlot) := goodIn_app (goodIn_of _ (by decide +kernel)) ggX7_put_X7_isSlot
set_option maxRecDepth 20000 in
theorem ggX7_put_X7_isNumber : GoodIn wsX7_put wsX7_isNumber := goodIn_r _ [8] (by decide +kernel) (by decide +kernel)
set_option maxRecDepth 20000 in
theorem gX7_put_X7_isNumber : GoodIn wsX7_put (va_wsS RX7 99 yX7_isNumber wsX7_isNumber) := goodIn_app (goodIn_of _ (by decide +kernel)) ggX7_put_X7_isNumber
set_option maxRecDepth 20000 in
theorem ggX7_put_X7_has : GoodIn wsX7_put wsX7_has := goodIn_r _ [11, 6, 7, 4, 8] (by decide +kernel) (by decide +kernel)
set_option maxRecDepth 20000 in
theorem gX7_put_X7_has : GoodIn wsX7_put (va_wsS RX7 102 yX7_has wsX7_has) := goodIn_app (goodIn_of _ (by decide +kernel)) ggX7_put_X7_has
set_option maxRecDepth 20000 in
theorem ggX7_put_X7_change : GoodIn wsX7_put wsX7_change := goodIn_r _ [15, 16, 1, 17, 18, 19, 20, 21, 22, 23, 24, 25, 26, 27, 28, 29, 30, 31, 32, 33, 34, 35, 36, 37, 38, 39, 40, 41, 42, 43, 44, 45, 46, 47] (by decide +kernel) (by decide +kernel)
set_option maxRecDepth 20000 in
theorem gX7_put_X7_change : GoodIn wsX7_put (wsV RX7 106 RX7 yX7_change wsX7_change) := goodIn_app (goodIn_of _ (by decide +kernel)) ggX7_put_X7_change
theorem dX7_put_0 : decode cX7_put 0 = .ok (.iload_n 1, 1) := by decide +kernel
theorem dX7_put_1 : decode cX7_put 1 = .ok (.invokestatic 96, 3) := by decide +kernel
theorem dX7_put_4 : decode cX7_put 4 = .ok (.ifCond .eq 10, 3) := by decide +kernel
theorem dX7_put_7 : decode cX7_put 7 = .ok (.iload_n 2, 1) := by decide +kernel
theorem dX7_put_8 : decode cX7_put 8 = .ok (.invokestatic 99, 3) := by decide +kernel
theorem dX7_put_11 : decode cX7_put 11 = .ok (.ifCond .ne 5, 3) := by decide +kernel
theorem dX7_put_14 : decode cX7_put 14 = .ok (.iconst (-1), 1) := by decide +kernel
theorem dX7_put_15 : decode cX7_put 15 = .ok (.ireturn, 1) := by decide +kernel
theorem dX7_put_16 : decode cX7_put 16 = .ok (.aload_n 0, 1) := by decide +kernel
theorem dX7_put_17 : decode cX7_put 17 = .ok (.getfield 9, 3) := by decide +kernel
theorem dX7_put_20 : decode cX7_put 20 = .ok (.iload_n 1, 1) := by decide +kernel
theorem dX7_put_21 : decode cX7_put 21 = .ok (.laload, 1) := by decide +kernel
theorem dX7_put_22 : decode cX7_put 22 = .ok (.iload_n 2, 1) := by decide +kernel
theorem dX7_put_23 : decode cX7_put 23 = .ok (.invokestatic 102, 3) := by decide +kernel
theorem dX7_put_26 : decode cX7_put 26 = .ok (.ifCond .eq 8, 3) := by decide +kernel
theorem dX7_put_29 : decode cX7_put 29 = .ok (.bipush (-2), 2) := by decide +kernel
theorem dX7_put_31 : decode cX7_put 31 = .ok (.goto 18, 3) := by decide +kernel
theorem dX7_put_34 : decode cX7_put 34 = .ok (.aload_n 0, 1) := by decide +kernel
theorem dX7_put_35 : decode cX7_put 35 = .ok (.iload_n 1, 1) := by decide +kernel
theorem dX7_put_36 : decode cX7_put 36 = .ok (.aload_n 0, 1) := by decide +kernel
theorem dX7_put_37 : decode cX7_put 37 = .ok (.getfield 9, 3) := by decide +kernel
theorem dX7_put_40 : decode cX7_put 40 = .ok (.iload_n 1, 1) := by decide +kernel
theorem dX7_put_41 : decode cX7_put 41 = .ok (.laload, 1) := by decide +kernel
theorem dX7_put_42 : decode cX7_put 42 = .ok (.lconst 1, 1) := by decide +kernel
theorem dX7_put_43 : decode cX7_put 43 = .ok (.iload_n 2, 1) := by decide +kernel
theorem dX7_put_44 : decode cX7_put 44 = .ok (.lshl, 1) := by decide +kernel
theorem dX7_put_45 : decode cX7_put 45 = .ok (.lor, 1) := by decide +kernel
theorem dX7_put_46 : decode cX7_put 46 = .ok (.invokevirtual 106, 3) := by decide +kernel
theorem dX7_put_49 : decode cX7_put 49 = .ok (.ireturn, 1) := by decide +kernel
set_option maxRecDepth 20000 in
theorem ggX7_take_X7_isSlot : GoodIn wsX7_take wsX7_isSlot := goodIn_r _ [6] (by decide +kernel) (by decide +kernel)
set_option maxRecDepth 20000 in
theorem gX7_take_X7_isSlot : GoodIn wsX7_take (va_wsS RX7 96 yX7_isSlot wsX7_isSlot) := goodIn_app (goodIn_of _ (by decide +kernel)) ggX7_take_X7_isSlot
set_option maxRecDepth 20000 in
theorem ggX7_take_X7_isNumber : GoodIn wsX7_take wsX7_isNumber := goodIn_r _ [9] (by decide +kernel) (by decide +kernel)
set_option maxRecDepth 20000 in
theorem gX7_take_X7_isNumber : GoodIn wsX7_take (va_wsS RX7 99 yX7_isNumber wsX7_isNumber) := goodIn_app (goodIn_of _ (by decide +kernel)) ggX7_take_X7_isNumber
set_option maxRecDepth 20000 in
theorem ggX7_take_X7_has : GoodIn wsX7_take wsX7_has := goodIn_r _ [12, 7, 8, 5, 9] (by decide +kernel) (by decide +kernel)
set_option maxRecDepth 20000 in
theorem gX7_take_X7_has : GoodIn wsX7_take (va_wsS RX7 102 yX7_has wsX7_has) := goodIn_app (goodIn_of _ (by decide +kernel)) ggX7_take_X7_has
set_option maxRecDepth 20000 in
theorem ggX7_take_X7_change : GoodIn wsX7_take wsX7_change := goodIn_r _ [16, 17, 1, 18, 19, 20, 21, 22, 23, 24, 25, 26, 27, 28, 29, 30, 31, 32, 33, 34, 35, 36, 37, 38, 39, 40, 41, 42, 43, 44, 45, 46, 47, 48] (by decide +kernel) (by decide +kernel)
set_option maxRecDepth 20000 in
theorem gX7_take_X7_change : GoodIn wsX7_take (wsV RX7 106 RX7 yX7_change wsX7_change) := goodIn_app (goodIn_of _ (by decide +kernel)) ggX7_take_X7_change
theorem dX7_take_0 : decode cX7_take 0 = .ok (.iload_n 1, 1) := by decide +kernel
theorem dX7_take_1 : decode cX7_take 1 = .ok (.invokestatic 96, 3) := by decide +kernel
theorem dX7_take_4 : decode cX7_take 4 = .ok (.ifCond .eq 10, 3) := by decide +kernel
theorem dX7_take_7 : decode cX7_take 7 = .ok (.iload_n 2, 1) := by decide +kernel
theorem dX7_take_8 : decode cX7_take 8 = .ok (.invokestatic 99, 3) := by decide +kernel
theorem dX7_take_11 : decode cX7_take 11 = .ok (.ifCond .ne 5, 3) := by decide +kernel
theorem dX7_take_14 : decode cX7_take 14 = .ok (.iconst (-1), 1) := by decide +kernel
theorem dX7_take_15 : decode cX7_take 15 = .ok (.ireturn, 1) := by decide +kernel
theorem dX7_take_16 : decode cX7_take 16 = .ok (.aload_n 0, 1) := by decide +kernel
theorem dX7_take_17 : decode cX7_take 17 = .ok (.getfield 9, 3) := by decide +kernel
theorem dX7_take_20 : decode cX7_take 20 = .ok (.iload_n 1, 1) := by decide +kernel
theorem dX7_take_21 : decode cX7_take 21 = .ok (.laload, 1) := by decide +kernel
theorem dX7_take_22 : decode cX7_take 22 = .ok (.iload_n 2, 1) := by decide +kernel
theorem dX7_take_23 : decode cX7_take 23 = .ok (.invokestatic 102, 3) := by decide +kernel
theorem dX7_take_26 : decode cX7_take 26 = .ok (.ifCond .eq 25, 3) := by decide +kernel
theorem dX7_take_29 : decode cX7_take 29 = .ok (.aload_n 0, 1) := by decide +kernel
theorem dX7_take_30 : decode cX7_take 30 = .ok (.iload_n 1, 1) := by decide +kernel
theorem dX7_take_31 : decode cX7_take 31 = .ok (.aload_n 0, 1) := by decide +kernel
theorem dX7_take_32 : decode cX7_take 32 = .ok (.getfield 9, 3) := by decide +kernel
theorem dX7_take_35 : decode cX7_take 35 = .ok (.iload_n 1, 1) := by decide +kernel
theorem dX7_take_36 : decode cX7_take 36 = .ok (.laload, 1) := by decide +kernel
theorem dX7_take_37 : decode cX7_take 37 = .ok (.lconst 1, 1) := by decide +kernel
theorem dX7_take_38 : decode cX7_take 38 = .ok (.iload_n 2, 1) := by decide +kernel
theorem dX7_take_39 : decode cX7_take 39 = .ok (.lshl, 1) := by decide +kernel
theorem dX7_take_40 : decode cX7_take 40 = .ok (.ldc2_w 110, 3) := by decide +kernel
theorem dX7_take_43 : decode cX7_take 43 = .ok (.lxor, 1) := by decide +kernel
theorem dX7_take_44 : decode cX7_take 44 = .ok (.land, 1) := by decide +kernel
theorem dX7_take_45 : decode cX7_take 45 = .ok (.invokevirtual 106, 3) := by decide +kernel
theorem dX7_take_48 : decode cX7_take 48 = .ok (.goto 5, 3) := by decide +kernel
theorem dX7_take_51 : decode cX7_take 51 = .ok (.bipush (-2), 2) := by decide +kernel
theorem dX7_take_53 : decode cX7_take 53 = .ok (.ireturn, 1) := by decide +kernel
set_option maxRecDepth 20000 in
theorem ggX7_becomeSums_X7_isSlot : GoodIn wsX7_becomeSums wsX7_isSlot := goodIn_r _ [6] (by decide +kernel) (by decide +kernel)
set_option maxRecDepth 20000 in
theorem gX7_becomeSums_X7_isSlot : GoodIn wsX7_becomeSums (va_wsS RX7 96 yX7_isSlot wsX7_isSlot) := goodIn_app (goodIn_of _ (by decide +kernel)) ggX7_becomeSums_X7_isSlot
set_option maxRecDepth 20000 in
theorem ggX7_becomeSums_X7_findSums : GoodIn wsX7_becomeSums wsX7_findSums := goodIn_r _ [10, 11, 2, 12, 13, 14, 15, 16, 17, 18, 19, 20, 21, 22, 23, 24, 25, 26, 5, 27, 28, 29, 30, 31, 32, 33, 34, 35, 36, 37, 80, 81, 82, 83, 84, 85, 86, 87, 88, 89] (by decide +kernel) (by decide +kernel)
set_option maxRecDepth 20000 in
theorem gX7_becomeSums_X7_findSums : GoodIn wsX7_becomeSums (wsV RX7 112 RX7 yX7_findSums wsX7_findSums) := goodIn_app (goodIn_of _ (by decide +kernel)) ggX7_becomeSums_X7_findSums
set_option maxRecDepth 20000 in
theorem ggX7_becomeSums_X6_greatest : GoodIn wsX7_becomeSums wsX6_greatest := goodIn_r _ [41, 17, 42, 5, 43, 44, 45, 46, 47, 48, 49, 50, 51, 52, 89] (by decide +kernel) (by decide +kernel)
set_option maxRecDepth 20000 in
theorem gX7_becomeSums_X6_greatest : GoodIn wsX7_becomeSums (wsV RX7 116 RX6 yX6_greatest wsX6_greatest) := goodIn_app (goodIn_of _ (by decide +kernel)) ggX7_becomeSums_X6_greatest
set_option maxRecDepth 20000 in
theorem ggX7_becomeSums_X6_lowest64 : GoodIn wsX7_becomeSums wsX6_lowest64 := goodIn_r _ [56, 17, 89] (by decide +kernel) (by decide +kernel)
set_option maxRecDepth 20000 in
theorem gX7_becomeSums_X6_lowest64 : GoodIn wsX7_becomeSums (wsV RX7 119 RX6 yX6_lowest64 wsX6_lowest64) := goodIn_app (goodIn_of _ (by decide +kernel)) ggX7_becomeSums_X6_lowest64
set_option maxRecDepth 20000 in
theorem ggX7_becomeSums_X7_change : GoodIn wsX7_becomeSums wsX7_change := goodIn_r _ [60, 61, 1, 62, 63, 64, 65, 66, 67, 68, 69, 70, 71, 72, 73, 74, 75, 46, 76, 77, 78, 79, 80, 81, 82, 83, 84, 85, 86, 87, 88, 90, 91, 92] (by decide +kernel) (by decide +kernel)
set_option maxRecDepth 20000 in
theorem gX7_becomeSums_X7_change : GoodIn wsX7_becomeSums (wsV RX7 106 RX7 yX7_change wsX7_change) := goodIn_app (goodIn_of _ (by decide +kernel)) ggX7_becomeSums_X7_change
theorem dX7_becomeSums_0 : decode cX7_becomeSums 0 = .ok (.iload_n 1, 1) := by decide +kernel
theorem dX7_becomeSums_1 : decode cX7_becomeSums 1 = .ok (.invokestatic 96, 3) := by decide +kernel
theorem dX7_becomeSums_4 : decode cX7_becomeSums 4 = .ok (.ifCond .eq 17, 3) := by decide +kernel
theorem dX7_becomeSums_7 : decode cX7_becomeSums 7 = .ok (.iload_n 2, 1) := by decide +kernel
theorem dX7_becomeSums_8 : decode cX7_becomeSums 8 = .ok (.invokestatic 96, 3) := by decide +kernel
theorem dX7_becomeSums_11 : decode cX7_becomeSums 11 = .ok (.ifCond .eq 10, 3) := by decide +kernel
theorem dX7_becomeSums_14 : decode cX7_becomeSums 14 = .ok (.iload_n 3, 1) := by decide +kernel
theorem dX7_becomeSums_15 : decode cX7_becomeSums 15 = .ok (.invokestatic 96, 3) := by decide +kernel
theorem dX7_becomeSums_18 : decode cX7_becomeSums 18 = .ok (.ifCond .ne 5, 3) := by decide +kernel
theorem dX7_becomeSums_21 : decode cX7_becomeSums 21 = .ok (.iconst (-1), 1) := by decide +kernel
theorem dX7_becomeSums_22 : decode cX7_becomeSums 22 = .ok (.ireturn, 1) := by decide +kernel
theorem dX7_becomeSums_23 : decode cX7_becomeSums 23 = .ok (.aload_n 0, 1) := by decide +kernel
theorem dX7_becomeSums_24 : decode cX7_becomeSums 24 = .ok (.aload_n 0, 1) := by decide +kernel
theorem dX7_becomeSums_25 : decode cX7_becomeSums 25 = .ok (.getfield 9, 3) := by decide +kernel
theorem dX7_becomeSums_28 : decode cX7_becomeSums 28 = .ok (.iload_n 2, 1) := by decide +kernel
theorem dX7_becomeSums_29 : decode cX7_becomeSums 29 = .ok (.laload, 1) := by decide +kernel
theorem dX7_becomeSums_30 : decode cX7_becomeSums 30 = .ok (.aload_n 0, 1) := by decide +kernel
theorem dX7_becomeSums_31 : decode cX7_becomeSums 31 = .ok (.getfield 9, 3) := by decide +kernel
theorem dX7_becomeSums_34 : decode cX7_becomeSums 34 = .ok (.iload_n 3, 1) := by decide +kernel
theorem dX7_becomeSums_35 : decode cX7_becomeSums 35 = .ok (.laload, 1) := by decide +kernel
theorem dX7_becomeSums_36 : decode cX7_becomeSums 36 = .ok (.invokevirtual 112, 3) := by decide +kernel
theorem dX7_becomeSums_39 : decode cX7_becomeSums 39 = .ok (.aload_n 0, 1) := by decide +kernel
theorem dX7_becomeSums_40 : decode cX7_becomeSums 40 = .ok (.getfield 30, 3) := by decide +kernel
theorem dX7_becomeSums_43 : decode cX7_becomeSums 43 = .ok (.invokevirtual 116, 3) := by decide +kernel
theorem dX7_becomeSums_46 : decode cX7_becomeSums 46 = .ok (.bipush 40, 2) := by decide +kernel
theorem dX7_becomeSums_48 : decode cX7_becomeSums 48 = .ok (.if_icmp .le 8, 3) := by decide +kernel
theorem dX7_becomeSums_51 : decode cX7_becomeSums 51 = .ok (.bipush (-2), 2) := by decide +kernel
theorem dX7_becomeSums_53 : decode cX7_becomeSums 53 = .ok (.goto 15, 3) := by decide +kernel
theorem dX7_becomeSums_56 : decode cX7_becomeSums 56 = .ok (.aload_n 0, 1) := by decide +kernel
theorem dX7_becomeSums_57 : decode cX7_becomeSums 57 = .ok (.iload_n 1, 1) := by decide +kernel
theorem dX7_becomeSums_58 : decode cX7_becomeSums 58 = .ok (.aload_n 0, 1) := by decide +kernel
theorem dX7_becomeSums_59 : decode cX7_becomeSums 59 = .ok (.getfield 30, 3) := by decide +kernel
theorem dX7_becomeSums_62 : decode cX7_becomeSums 62 = .ok (.invokevirtual 119, 3) := by decide +kernel
theorem dX7_becomeSums_65 : decode cX7_becomeSums 65 = .ok (.invokevirtual 106, 3) := by decide +kernel
theorem dX7_becomeSums_68 : decode cX7_becomeSums 68 = .ok (.ireturn, 1) := by decide +kernel
set_option maxRecDepth 20000 in
theorem ggX7_move_X7_isSlot : GoodIn wsX7_move wsX7_isSlot := goodIn_r _ [5] (by decide +kernel) (by decide +kernel)
set_option maxRecDepth 20000 in
theorem gX7_move_X7_isSlot : GoodIn wsX7_move (va_wsS RX7 96 yX7_isSlot wsX7_isSlot) := goodIn_app (goodIn_of _ (by decide +kernel)) ggX7_move_X7_isSlot
set_option maxRecDepth 20000 in
theorem ggX7_move_X7_has : GoodIn wsX7_move wsX7_has := goodIn_r _ [8, 9, 10, 4, 11] (by decide +kernel) (by decide +kernel)
set_option maxRecDepth 20000 in
theorem gX7_move_X7_has : GoodIn wsX7_move (va_wsS RX7 102 yX7_has wsX7_has) := goodIn_app (goodIn_of _ (by decide +kernel)) ggX7_move_X7_has
set_option maxRecDepth 20000 in
theorem ggX7_move_X7_isNumber : GoodIn wsX7_move wsX7_isNumber := goodIn_r _ [11] (by decide +kernel) (by decide +kernel)
set_option maxRecDepth 20000 in
theorem gX7_move_X7_isNumber : GoodIn wsX7_move (va_wsS RX7 99 yX7_isNumber wsX7_isNumber) := goodIn_app (goodIn_of _ (by decide +kernel)) ggX7_move_X7_isNumber
set_option maxRecDepth 20000 in
theorem ggX7_move_X7_change : GoodIn wsX7_move wsX7_change := goodIn_r _ [15, 16, 1, 17, 18, 19, 20, 21, 22, 23, 24, 25, 26, 27, 28, 29, 30, 31, 32, 33, 34, 35, 36, 37, 38, 39, 40, 41, 42, 43, 44, 45, 46, 47] (by decide +kernel) (by decide +kernel)
set_option maxRecDepth 20000 in
theorem gX7_move_X7_change : GoodIn wsX7_move (wsV RX7 106 RX7 yX7_change wsX7_change) := goodIn_app (goodIn_of _ (by decide +kernel)) ggX7_move_X7_change
theorem dX7_move_0 : decode cX7_move 0 = .ok (.iload_n 1, 1) := by decide +kernel
theorem dX7_move_1 : decode cX7_move 1 = .ok (.invokestatic 96, 3) := by decide +kernel
theorem dX7_move_4 : decode cX7_move 4 = .ok (.ifCond .eq 35, 3) := by decide +kernel
theorem dX7_move_7 : decode cX7_move 7 = .ok (.iload_n 2, 1) := by decide +kernel
theorem dX7_move_8 : decode cX7_move 8 = .ok (.invokestatic 96, 3) := by decide +kernel
theorem dX7_move_11 : decode cX7_move 11 = .ok (.ifCond .eq 28, 3) := by decide +kernel
theorem dX7_move_14 : decode cX7_move 14 = .ok (.iload_n 3, 1) := by decide +kernel
theorem dX7_move_15 : decode cX7_move 15 = .ok (.iconst 1, 1) := by decide +kernel
theorem dX7_move_16 : decode cX7_move 16 = .ok (.if_icmp .lt 23, 3) := by decide +kernel
theorem dX7_move_19 : decode cX7_move 19 = .ok (.iload_n 3, 1) := by decide +kernel
theorem dX7_move_20 : decode cX7_move 20 = .ok (.bipush 9, 2) := by decide +kernel
theorem dX7_move_22 : decode cX7_move 22 = .ok (.if_icmp .gt 17, 3) := by decide +kernel
theorem dX7_move_25 : decode cX7_move 25 = .ok (.iload 4, 2) := by decide +kernel
theorem dX7_move_27 : decode cX7_move 27 = .ok (.bipush (-40), 2) := by decide +kernel
theorem dX7_move_29 : decode cX7_move 29 = .ok (.if_icmp .lt 10, 3) := by decide +kernel
theorem dX7_move_32 : decode cX7_move 32 = .ok (.iload 4, 2) := by decide +kernel
theorem dX7_move_34 : decode cX7_move 34 = .ok (.bipush 40, 2) := by decide +kernel
theorem dX7_move_36 : decode cX7_move 36 = .ok (.if_icmp .le 5, 3) := by decide +kernel
theorem dX7_move_39 : decode cX7_move 39 = .ok (.iconst (-1), 1) := by decide +kernel
theorem dX7_move_40 : decode cX7_move 40 = .ok (.ireturn, 1) := by decide +kernel
theorem dX7_move_41 : decode cX7_move 41 = .ok (.lconst 0, 1) := by decide +kernel
theorem dX7_move_42 : decode cX7_move 42 = .ok (.lstore 5, 2) := by decide +kernel
theorem dX7_move_44 : decode cX7_move 44 = .ok (.iconst 0, 1) := by decide +kernel
theorem dX7_move_45 : decode cX7_move 45 = .ok (.istore 7, 2) := by decide +kernel
theorem dX7_move_47 : decode cX7_move 47 = .ok (.iload 7, 2) := by decide +kernel
theorem dX7_move_49 : decode cX7_move 49 = .ok (.bipush 40, 2) := by decide +kernel
theorem dX7_move_51 : decode cX7_move 51 = .ok (.if_icmp .gt 52, 3) := by decide +kernel
theorem dX7_move_54 : decode cX7_move 54 = .ok (.aload_n 0, 1) := by decide +kernel
theorem dX7_move_55 : decode cX7_move 55 = .ok (.getfield 9, 3) := by decide +kernel
theorem dX7_move_58 : decode cX7_move 58 = .ok (.iload_n 2, 1) := by decide +kernel
theorem dX7_move_59 : decode cX7_move 59 = .ok (.laload, 1) := by decide +kernel
theorem dX7_move_60 : decode cX7_move 60 = .ok (.iload 7, 2) := by decide +kernel
theorem dX7_move_62 : decode cX7_move 62 = .ok (.invokestatic 102, 3) := by decide +kernel
theorem dX7_move_65 : decode cX7_move 65 = .ok (.ifCond .eq 32, 3) := by decide +kernel
theorem dX7_move_68 : decode cX7_move 68 = .ok (.iload_n 3, 1) := by decide +kernel
theorem dX7_move_69 : decode cX7_move 69 = .ok (.iload 7, 2) := by decide +kernel
theorem dX7_move_71 : decode cX7_move 71 = .ok (.imul, 1) := by decide +kernel
theorem dX7_move_72 : decode cX7_move 72 = .ok (.iload 4, 2) := by decide +kernel
theorem dX7_move_74 : decode cX7_move 74 = .ok (.iadd, 1) := by decide +kernel
theorem dX7_move_75 : decode cX7_move 75 = .ok (.istore 8, 2) := by decide +kernel
theorem dX7_move_77 : decode cX7_move 77 = .ok (.iload 8, 2) := by decide +kernel
theorem dX7_move_79 : decode cX7_move 79 = .ok (.invokestatic 99, 3) := by decide +kernel
theorem dX7_move_82 : decode cX7_move 82 = .ok (.ifCond .ne 6, 3) := by decide +kernel
theorem dX7_move_85 : decode cX7_move 85 = .ok (.bipush (-2), 2) := by decide +kernel
theorem dX7_move_87 : decode cX7_move 87 = .ok (.ireturn, 1) := by decide +kernel
theorem dX7_move_88 : decode cX7_move 88 = .ok (.lload 5, 2) := by decide +kernel
theorem dX7_move_90 : decode cX7_move 90 = .ok (.lconst 1, 1) := by decide +kernel
theorem dX7_move_91 : decode cX7_move 91 = .ok (.iload 8, 2) := by decide +kernel
theorem dX7_move_93 : decode cX7_move 93 = .ok (.lshl, 1) := by decide +kernel
theorem dX7_move_94 : decode cX7_move 94 = .ok (.lor, 1) := by decide +kernel
theorem dX7_move_95 : decode cX7_move 95 = .ok (.lstore 5, 2) := by decide +kernel
theorem dX7_move_97 : decode cX7_move 97 = .ok (.iinc 7 1, 3) := by decide +kernel
theorem dX7_move_100 : decode cX7_move 100 = .ok (.goto (-53), 3) := by decide +kernel
theorem dX7_move_103 : decode cX7_move 103 = .ok (.aload_n 0, 1) := by decide +kernel
theorem dX7_move_104 : decode cX7_move 104 = .ok (.iload_n 1, 1) := by decide +kernel
theorem dX7_move_105 : decode cX7_move 105 = .ok (.lload 5, 2) := by decide +kernel
theorem dX7_move_107 : decode cX7_move 107 = .ok (.invokevirtual 106, 3) := by decide +kernel
theorem dX7_move_110 : decode cX7_move 110 = .ok (.ireturn, 1) := by decide +kernel
set_option maxRecDepth 20000 in
theorem ggX7_shrink_X7_isSlot : GoodIn wsX7_shrink wsX7_isSlot := goodIn_r _ [6] (by decide +kernel) (by decide +kernel)
set_option maxRecDepth 20000 in
theorem gX7_shrink_X7_isSlot : GoodIn wsX7_shrink (va_wsS RX7 96 yX7_isSlot wsX7_isSlot) := goodIn_app (goodIn_of _ (by decide +kernel)) ggX7_shrink_X7_isSlot
set_option maxRecDepth 20000 in
theorem ggX7_shrink_X7_canSwell : GoodIn wsX7_shrink wsX7_canSwell := goodIn_r _ [10, 2, 11, 12, 13, 14, 15, 16, 17, 92, 93, 94, 95, 96, 97, 98, 99, 100] (by decide +kernel) (by decide +kernel)
set_option maxRecDepth 20000 in
theorem gX7_shrink_X7_canSwell : GoodIn wsX7_shrink (wsV RX7 123 RX7 yX7_canSwell wsX7_canSwell) := goodIn_app (goodIn_of _ (by decide +kernel)) ggX7_shrink_X7_canSwell
set_option maxRecDepth 20000 in
theorem ggX7_shrink_X5_seek : GoodIn wsX7_shrink wsX5_seek := goodIn_r _ [22, 23, 24, 25, 26, 27, 28, 29, 30, 31, 32, 33, 5, 34, 35, 36, 37, 38, 39, 40, 41, 42, 43, 44, 45, 46, 47, 48, 21, 49, 50, 51, 52, 53, 54, 12, 13, 14, 15, 16, 17, 55, 56, 57, 58, 59, 60, 61, 62, 63, 64, 65, 66, 67, 68, 69, 70, 101, 102, 103, 104, 105, 106, 107, 108] (by decide +kernel) (by decide +kernel)
set_option maxRecDepth 20000 in
theorem gX7_shrink_X5_seek : GoodIn wsX7_shrink (wsV RX7 127 RX5 yX5_seek wsX5_seek) := goodIn_app (goodIn_of _ (by decide +kernel)) ggX7_shrink_X5_seek
set_option maxRecDepth 20000 in
theorem ggX7_shrink_X5_bestSet : GoodIn wsX7_shrink wsX5_bestSet := goodIn_r _ [74, 25, 28, 101, 102, 103, 104, 105, 106, 107, 108] (by decide +kernel) (by decide +kernel)
set_option maxRecDepth 20000 in
theorem gX7_shrink_X5_bestSet : GoodIn wsX7_shrink (wsV RX7 130 RX5 yX5_bestSet wsX5_bestSet) := goodIn_app (goodIn_of _ (by decide +kernel)) ggX7_shrink_X5_bestSet
set_option maxRecDepth 20000 in
theorem ggX7_shrink_X7_change : GoodIn wsX7_shrink wsX7_change := goodIn_r _ [78, 79, 2, 80, 81, 82, 83, 84, 85, 86, 87, 88, 89, 90, 91, 11, 12, 13, 14, 15, 16, 17, 92, 93, 94, 95, 96, 97, 98, 99, 100, 109, 110, 111] (by decide +kernel) (by decide +kernel)
set_option maxRecDepth 20000 in
theorem gX7_shrink_X7_change : GoodIn wsX7_shrink (wsV RX7 106 RX7 yX7_change wsX7_change) := goodIn_app (goodIn_of _ (by decide +kernel)) ggX7_shrink_X7_change
theorem dX7_shrink_0 : decode cX7_shrink 0 = .ok (.iload_n 1, 1) := by decide +kernel
theorem dX7_shrink_1 : decode cX7_shrink 1 = .ok (.invokestatic 96, 3) := by decide +kernel
theorem dX7_shrink_4 : decode cX7_shrink 4 = .ok (.ifCond .eq 17, 3) := by decide +kernel
theorem dX7_shrink_7 : decode cX7_shrink 7 = .ok (.iload_n 2, 1) := by decide +kernel
theorem dX7_shrink_8 : decode cX7_shrink 8 = .ok (.invokestatic 96, 3) := by decide +kernel
theorem dX7_shrink_11 : decode cX7_shrink 11 = .ok (.ifCond .eq 10, 3) := by decide +kernel
theorem dX7_shrink_14 : decode cX7_shrink 14 = .ok (.iload_n 3, 1) := by decide +kernel
theorem dX7_shrink_15 : decode cX7_shrink 15 = .ok (.invokestatic 96, 3) := by decide +kernel
theorem dX7_shrink_18 : decode cX7_shrink 18 = .ok (.ifCond .ne 5, 3) := by decide +kernel
theorem dX7_shrink_21 : decode cX7_shrink 21 = .ok (.iconst (-1), 1) := by decide +kernel
theorem dX7_shrink_22 : decode cX7_shrink 22 = .ok (.ireturn, 1) := by decide +kernel
theorem dX7_shrink_23 : decode cX7_shrink 23 = .ok (.aload_n 0, 1) := by decide +kernel
theorem dX7_shrink_24 : decode cX7_shrink 24 = .ok (.iload_n 2, 1) := by decide +kernel
theorem dX7_shrink_25 : decode cX7_shrink 25 = .ok (.iload_n 3, 1) := by decide +kernel
theorem dX7_shrink_26 : decode cX7_shrink 26 = .ok (.invokevirtual 123, 3) := by decide +kernel
theorem dX7_shrink_29 : decode cX7_shrink 29 = .ok (.ifCond .ne 6, 3) := by decide +kernel
theorem dX7_shrink_32 : decode cX7_shrink 32 = .ok (.bipush (-2), 2) := by decide +kernel
theorem dX7_shrink_34 : decode cX7_shrink 34 = .ok (.ireturn, 1) := by decide +kernel
theorem dX7_shrink_35 : decode cX7_shrink 35 = .ok (.aload_n 0, 1) := by decide +kernel
theorem dX7_shrink_36 : decode cX7_shrink 36 = .ok (.getfield 54, 3) := by decide +kernel
theorem dX7_shrink_39 : decode cX7_shrink 39 = .ok (.aload_n 0, 1) := by decide +kernel
theorem dX7_shrink_40 : decode cX7_shrink 40 = .ok (.getfield 9, 3) := by decide +kernel
theorem dX7_shrink_43 : decode cX7_shrink 43 = .ok (.iload_n 2, 1) := by decide +kernel
theorem dX7_shrink_44 : decode cX7_shrink 44 = .ok (.laload, 1) := by decide +kernel
theorem dX7_shrink_45 : decode cX7_shrink 45 = .ok (.aload_n 0, 1) := by decide +kernel
theorem dX7_shrink_46 : decode cX7_shrink 46 = .ok (.getfield 9, 3) := by decide +kernel
theorem dX7_shrink_49 : decode cX7_shrink 49 = .ok (.iload_n 3, 1) := by decide +kernel
theorem dX7_shrink_50 : decode cX7_shrink 50 = .ok (.laload, 1) := by decide +kernel
theorem dX7_shrink_51 : decode cX7_shrink 51 = .ok (.invokevirtual 127, 3) := by decide +kernel
theorem dX7_shrink_54 : decode cX7_shrink 54 = .ok (.aload_n 0, 1) := by decide +kernel
theorem dX7_shrink_55 : decode cX7_shrink 55 = .ok (.iload_n 1, 1) := by decide +kernel
theorem dX7_shrink_56 : decode cX7_shrink 56 = .ok (.aload_n 0, 1) := by decide +kernel
theorem dX7_shrink_57 : decode cX7_shrink 57 = .ok (.getfield 54, 3) := by decide +kernel
theorem dX7_shrink_60 : decode cX7_shrink 60 = .ok (.invokevirtual 130, 3) := by decide +kernel
theorem dX7_shrink_63 : decode cX7_shrink 63 = .ok (.invokevirtual 106, 3) := by decide +kernel
theorem dX7_shrink_66 : decode cX7_shrink 66 = .ok (.ireturn, 1) := by decide +kernel
set_option maxRecDepth 20000 in
theorem ggX7_undo_X1_latestSlot : GoodIn wsX7_undo wsX1_latestSlot := goodIn_r _ [7, 8, 9, 36, 37, 38] (by decide +kernel) (by decide +kernel)
set_option maxRecDepth 20000 in
theorem gX7_undo_X1_latestSlot : GoodIn wsX7_undo (wsV RX7 133 RX1 yX1_latestSlot wsX1_latestSlot) := goodIn_app (goodIn_of _ (by decide +kernel)) ggX7_undo_X1_latestSlot
set_option maxRecDepth 20000 in
theorem ggX7_undo_X7_isSlot : GoodIn wsX7_undo wsX7_isSlot := goodIn_r _ [13] (by decide +kernel) (by decide +kernel)
set_option maxRecDepth 20000 in
theorem gX7_undo_X7_isSlot : GoodIn wsX7_undo (va_wsS RX7 96 yX7_isSlot wsX7_isSlot) := goodIn_app (goodIn_of _ (by decide +kernel)) ggX7_undo_X7_isSlot
set_option maxRecDepth 20000 in
theorem ggX7_undo_X1_latestSet : GoodIn wsX7_undo wsX1_latestSet := goodIn_r _ [17, 8, 18, 36, 37, 38] (by decide +kernel) (by decide +kernel)
set_option maxRecDepth 20000 in
theorem gX7_undo_X1_latestSet : GoodIn wsX7_undo (wsV RX7 136 RX1 yX1_latestSet wsX1_latestSet) := goodIn_app (goodIn_of _ (by decide +kernel)) ggX7_undo_X1_latestSet
set_option maxRecDepth 20000 in
theorem ggX7_undo_X1_dropLatest : GoodIn wsX7_undo wsX1_dropLatest := goodIn_r _ [22, 8, 36, 37, 38] (by decide +kernel) (by decide +kernel)
set_option maxRecDepth 20000 in
theorem gX7_undo_X1_dropLatest : GoodIn wsX7_undo (wsV RX7 139 RX1 yX1_dropLatest wsX1_dropLatest) := goodIn_app (goodIn_of _ (by decide +kernel)) ggX7_undo_X1_dropLatest
set_option maxRecDepth 20000 in
theorem ggX7_undo_X1_size : GoodIn wsX7_undo wsX1_size := goodIn_r _ [26, 8, 36, 37, 38] (by decide +kernel) (by decide +kernel)
set_option maxRecDepth 20000 in
theorem gX7_undo_X1_size : GoodIn wsX7_undo (wsV RX7 142 RX1 yX1_size wsX1_size) := goodIn_app (goodIn_of _ (by decide +kernel)) ggX7_undo_X1_size
theorem dX7_undo_0 : decode cX7_undo 0 = .ok (.aload_n 0, 1) := by decide +kernel
theorem dX7_undo_1 : decode cX7_undo 1 = .ok (.getfield 23, 3) := by decide +kernel
theorem dX7_undo_4 : decode cX7_undo 4 = .ok (.invokevirtual 133, 3) := by decide +kernel
theorem dX7_undo_7 : decode cX7_undo 7 = .ok (.istore_n 1, 1) := by decide +kernel
theorem dX7_undo_8 : decode cX7_undo 8 = .ok (.iload_n 1, 1) := by decide +kernel
theorem dX7_undo_9 : decode cX7_undo 9 = .ok (.invokestatic 96, 3) := by decide +kernel
theorem dX7_undo_12 : decode cX7_undo 12 = .ok (.ifCond .ne 6, 3) := by decide +kernel
theorem dX7_undo_15 : decode cX7_undo 15 = .ok (.bipush (-2), 2) := by decide +kernel
theorem dX7_undo_17 : decode cX7_undo 17 = .ok (.ireturn, 1) := by decide +kernel
theorem dX7_undo_18 : decode cX7_undo 18 = .ok (.aload_n 0, 1) := by decide +kernel
theorem dX7_undo_19 : decode cX7_undo 19 = .ok (.getfield 9, 3) := by decide +kernel
theorem dX7_undo_22 : decode cX7_undo 22 = .ok (.iload_n 1, 1) := by decide +kernel
theorem dX7_undo_23 : decode cX7_undo 23 = .ok (.aload_n 0, 1) := by decide +kernel
theorem dX7_undo_24 : decode cX7_undo 24 = .ok (.getfield 23, 3) := by decide +kernel
theorem dX7_undo_27 : decode cX7_undo 27 = .ok (.invokevirtual 136, 3) := by decide +kernel
theorem dX7_undo_30 : decode cX7_undo 30 = .ok (.lastore, 1) := by decide +kernel
theorem dX7_undo_31 : decode cX7_undo 31 = .ok (.aload_n 0, 1) := by decide +kernel
theorem dX7_undo_32 : decode cX7_undo 32 = .ok (.getfield 23, 3) := by decide +kernel
theorem dX7_undo_35 : decode cX7_undo 35 = .ok (.invokevirtual 139, 3) := by decide +kernel
theorem dX7_undo_38 : decode cX7_undo 38 = .ok (.aload_n 0, 1) := by decide +kernel
theorem dX7_undo_39 : decode cX7_undo 39 = .ok (.getfield 23, 3) := by decide +kernel
theorem dX7_undo_42 : decode cX7_undo 42 = .ok (.invokevirtual 142, 3) := by decide +kernel
theorem dX7_undo_45 : decode cX7_undo 45 = .ok (.ireturn, 1) := by decide +kernel
set_option maxRecDepth 20000 in
theorem ggX7_member_X7_isSlot : GoodIn wsX7_member wsX7_isSlot := goodIn_r _ [5] (by decide +kernel) (by decide +kernel)
set_option maxRecDepth 20000 in
theorem gX7_member_X7_isSlot : GoodIn wsX7_member (va_wsS RX7 96 yX7_isSlot wsX7_isSlot) := goodIn_app (goodIn_of _ (by decide +kernel)) ggX7_member_X7_isSlot
set_option maxRecDepth 20000 in
theorem ggX7_member_J13_bitCount_95d88 : GoodIn wsX7_member wsJ13_bitCount_95d88 := goodIn_r _ [9, 10, 11, 12] (by decide +kernel) (by decide +kernel)
set_option maxRecDepth 20000 in
theorem gX7_member_J13_bitCount_95d88 : GoodIn wsX7_member (va_wsS RX7 145 yJ13_bitCount_95d88 wsJ13_bitCount_95d88) := goodIn_app (goodIn_of _ (by decide +kernel)) ggX7_member_J13_bitCount_95d88
set_option maxRecDepth 20000 in
theorem ggX7_member_X7_numberAt : GoodIn wsX7_member wsX7_numberAt := goodIn_r _ [15, 6, 7, 8, 9, 10, 11, 12, 16, 17, 4, 18, 19, 20, 21, 22, 23, 24, 25, 26] (by decide +kernel) (by decide +kernel)
set_option maxRecDepth 20000 in
theorem gX7_member_X7_numberAt : GoodIn wsX7_member (va_wsS RX7 151 yX7_numberAt wsX7_numberAt) := goodIn_app (goodIn_of _ (by decide +kernel)) ggX7_member_X7_numberAt
theorem dX7_member_0 : decode cX7_member 0 = .ok (.iload_n 1, 1) := by decide +kernel
theorem dX7_member_1 : decode cX7_member 1 = .ok (.invokestatic 96, 3) := by decide +kernel
theorem dX7_member_4 : decode cX7_member 4 = .ok (.ifCond .eq 8, 3) := by decide +kernel
theorem dX7_member_7 : decode cX7_member 7 = .ok (.iload_n 2, 1) := by decide +kernel
theorem dX7_member_8 : decode cX7_member 8 = .ok (.iconst (-1), 1) := by decide +kernel
theorem dX7_member_9 : decode cX7_member 9 = .ok (.if_icmp .ge 5, 3) := by decide +kernel
theorem dX7_member_12 : decode cX7_member 12 = .ok (.iconst (-1), 1) := by decide +kernel
theorem dX7_member_13 : decode cX7_member 13 = .ok (.ireturn, 1) := by decide +kernel
theorem dX7_member_14 : decode cX7_member 14 = .ok (.iload_n 2, 1) := by decide +kernel
theorem dX7_member_15 : decode cX7_member 15 = .ok (.iconst (-1), 1) := by decide +kernel
theorem dX7_member_16 : decode cX7_member 16 = .ok (.if_icmp .ne 15, 3) := by decide +kernel
theorem dX7_member_19 : decode cX7_member 19 = .ok (.aload_n 0, 1) := by decide +kernel
theorem dX7_member_20 : decode cX7_member 20 = .ok (.getfield 9, 3) := by decide +kernel
theorem dX7_member_23 : decode cX7_member 23 = .ok (.iload_n 1, 1) := by decide +kernel
theorem dX7_member_24 : decode cX7_member 24 = .ok (.laload, 1) := by decide +kernel
theorem dX7_member_25 : decode cX7_member 25 = .ok (.invokestatic 145, 3) := by decide +kernel
theorem dX7_member_28 : decode cX7_member 28 = .ok (.goto 13, 3) := by decide +kernel
theorem dX7_member_31 : decode cX7_member 31 = .ok (.aload_n 0, 1) := by decide +kernel
theorem dX7_member_32 : decode cX7_member 32 = .ok (.getfield 9, 3) := by decide +kernel
theorem dX7_member_35 : decode cX7_member 35 = .ok (.iload_n 1, 1) := by decide +kernel
theorem dX7_member_36 : decode cX7_member 36 = .ok (.laload, 1) := by decide +kernel
theorem dX7_member_37 : decode cX7_member 37 = .ok (.iload_n 2, 1) := by decide +kernel
theorem dX7_member_38 : decode cX7_member 38 = .ok (.invokestatic 151, 3) := by decide +kernel
theorem dX7_member_41 : decode cX7_member 41 = .ok (.ireturn, 1) := by decide +kernel
set_option maxRecDepth 20000 in
theorem ggX7_sum_X7_isSlot : GoodIn wsX7_sum wsX7_isSlot := goodIn_r _ [6] (by decide +kernel) (by decide +kernel)
set_option maxRecDepth 20000 in
theorem gX7_sum_X7_isSlot : GoodIn wsX7_sum (va_wsS RX7 96 yX7_isSlot wsX7_isSlot) := goodIn_app (goodIn_of _ (by decide +kernel)) ggX7_sum_X7_isSlot
set_option maxRecDepth 20000 in
theorem ggX7_sum_X7_findSums : GoodIn wsX7_sum wsX7_findSums := goodIn_r _ [10, 11, 2, 12, 13, 14, 15, 16, 17, 18, 19, 20, 21, 22, 23, 24, 25, 26, 5, 27, 28, 29, 30, 31, 32, 33, 34, 35, 36, 37, 67, 68, 69, 70, 71, 72, 73, 74, 75, 76] (by decide +kernel) (by decide +kernel)
set_option maxRecDepth 20000 in
theorem gX7_sum_X7_findSums : GoodIn wsX7_sum (wsV RX7 112 RX7 yX7_findSums wsX7_findSums) := goodIn_app (goodIn_of _ (by decide +kernel)) ggX7_sum_X7_findSums
set_option maxRecDepth 20000 in
theorem ggX7_sum_X6_size : GoodIn wsX7_sum wsX6_size := goodIn_r _ [41, 17, 42, 43, 44, 45, 46, 47, 48, 76] (by decide +kernel) (by decide +kernel)
set_option maxRecDepth 20000 in
theorem gX7_sum_X6_size : GoodIn wsX7_sum (wsV RX7 155 RX6 yX6_size wsX6_size) := goodIn_app (goodIn_of _ (by decide +kernel)) ggX7_sum_X6_size
set_option maxRecDepth 20000 in
theorem ggX7_sum_X6_numberAtPlace : GoodIn wsX7_sum wsX6_numberAtPlace := goodIn_r _ [52, 17, 42, 43, 44, 45, 46, 47, 48, 53, 5, 54, 55, 56, 57, 58, 59, 60, 61, 62, 63, 64, 65, 66, 76] (by decide +kernel) (by decide +kernel)
set_option maxRecDepth 20000 in
theorem gX7_sum_X6_numberAtPlace : GoodIn wsX7_sum (wsV RX7 156 RX6 yX6_numberAtPlace wsX6_numberAtPlace) := goodIn_app (goodIn_of _ (by decide +kernel)) ggX7_sum_X6_numberAtPlace
theorem dX7_sum_0 : decode cX7_sum 0 = .ok (.iload_n 1, 1) := by decide +kernel
theorem dX7_sum_1 : decode cX7_sum 1 = .ok (.invokestatic 96, 3) := by decide +kernel
theorem dX7_sum_4 : decode cX7_sum 4 = .ok (.ifCond .eq 15, 3) := by decide +kernel
theorem dX7_sum_7 : decode cX7_sum 7 = .ok (.iload_n 2, 1) := by decide +kernel
theorem dX7_sum_8 : decode cX7_sum 8 = .ok (.invokestatic 96, 3) := by decide +kernel
theorem dX7_sum_11 : decode cX7_sum 11 = .ok (.ifCond .eq 8, 3) := by decide +kernel
theorem dX7_sum_14 : decode cX7_sum 14 = .ok (.iload_n 3, 1) := by decide +kernel
theorem dX7_sum_15 : decode cX7_sum 15 = .ok (.iconst (-1), 1) := by decide +kernel
theorem dX7_sum_16 : decode cX7_sum 16 = .ok (.if_icmp .ge 5, 3) := by decide +kernel
theorem dX7_sum_19 : decode cX7_sum 19 = .ok (.iconst (-1), 1) := by decide +kernel
theorem dX7_sum_20 : decode cX7_sum 20 = .ok (.ireturn, 1) := by decide +kernel
theorem dX7_sum_21 : decode cX7_sum 21 = .ok (.aload_n 0, 1) := by decide +kernel
theorem dX7_sum_22 : decode cX7_sum 22 = .ok (.aload_n 0, 1) := by decide +kernel
theorem dX7_sum_23 : decode cX7_sum 23 = .ok (.getfield 9, 3) := by decide +kernel
theorem dX7_sum_26 : decode cX7_sum 26 = .ok (.iload_n 1, 1) := by decide +kernel
theorem dX7_sum_27 : decode cX7_sum 27 = .ok (.laload, 1) := by decide +kernel
theorem dX7_sum_28 : decode cX7_sum 28 = .ok (.aload_n 0, 1) := by decide +kernel
theorem dX7_sum_29 : decode cX7_sum 29 = .ok (.getfield 9, 3) := by decide +kernel
theorem dX7_sum_32 : decode cX7_sum 32 = .ok (.iload_n 2, 1) := by decide +kernel
theorem dX7_sum_33 : decode cX7_sum 33 = .ok (.laload, 1) := by decide +kernel
theorem dX7_sum_34 : decode cX7_sum 34 = .ok (.invokevirtual 112, 3) := by decide +kernel
theorem dX7_sum_37 : decode cX7_sum 37 = .ok (.iload_n 3, 1) := by decide +kernel
theorem dX7_sum_38 : decode cX7_sum 38 = .ok (.iconst (-1), 1) := by decide +kernel
theorem dX7_sum_39 : decode cX7_sum 39 = .ok (.if_icmp .ne 13, 3) := by decide +kernel
theorem dX7_sum_42 : decode cX7_sum 42 = .ok (.aload_n 0, 1) := by decide +kernel
theorem dX7_sum_43 : decode cX7_sum 43 = .ok (.getfield 30, 3) := by decide +kernel
theorem dX7_sum_46 : decode cX7_sum 46 = .ok (.invokevirtual 155, 3) := by decide +kernel
theorem dX7_sum_49 : decode cX7_sum 49 = .ok (.goto 11, 3) := by decide +kernel
theorem dX7_sum_52 : decode cX7_sum 52 = .ok (.aload_n 0, 1) := by decide +kernel
theorem dX7_sum_53 : decode cX7_sum 53 = .ok (.getfield 30, 3) := by decide +kernel
theorem dX7_sum_56 : decode cX7_sum 56 = .ok (.iload_n 3, 1) := by decide +kernel
theorem dX7_sum_57 : decode cX7_sum 57 = .ok (.invokevirtual 156, 3) := by decide +kernel
theorem dX7_sum_60 : decode cX7_sum 60 = .ok (.ireturn, 1) := by decide +kernel
set_option maxRecDepth 20000 in
theorem ggX7_difference_X7_isSlot : GoodIn wsX7_difference wsX7_isSlot := goodIn_r _ [6] (by decide +kernel) (by decide +kernel)
set_option maxRecDepth 20000 in
theorem gX7_difference_X7_isSlot : GoodIn wsX7_difference (va_wsS RX7 96 yX7_isSlot wsX7_isSlot) := goodIn_app (goodIn_of _ (by decide +kernel)) ggX7_difference_X7_isSlot
set_option maxRecDepth 20000 in
theorem ggX7_difference_X7_mirrored : GoodIn wsX7_difference wsX7_mirrored := goodIn_r _ [9, 10, 11, 12, 13, 14, 15, 16, 17, 18, 19, 20, 21] (by decide +kernel) (by decide +kernel)
set_option maxRecDepth 20000 in
theorem gX7_difference_X7_mirrored : GoodIn wsX7_difference (va_wsS RX7 160 yX7_mirrored wsX7_mirrored) := goodIn_app (goodIn_of _ (by decide +kernel)) ggX7_difference_X7_mirrored
set_option maxRecDepth 20000 in
theorem ggX7_difference_X7_findSums : GoodIn wsX7_difference wsX7_findSums := goodIn_r _ [25, 26, 2, 27, 28, 29, 30, 31, 32, 33, 34, 35, 36, 37, 38, 39, 40, 41, 5, 42, 43, 44, 45, 46, 47, 48, 49, 50, 51, 52, 78, 79, 80, 81, 82, 83, 84, 85, 86, 87] (by decide +kernel) (by decide +kernel)
set_option maxRecDepth 20000 in
theorem gX7_difference_X7_findSums : GoodIn wsX7_difference (wsV RX7 112 RX7 yX7_findSums wsX7_findSums) := goodIn_app (goodIn_of _ (by decide +kernel)) ggX7_difference_X7_findSums
set_option maxRecDepth 20000 in
theorem ggX7_difference_X6_size : GoodIn wsX7_difference wsX6_size := goodIn_r _ [56, 32, 57, 58, 12, 59, 14, 15, 16, 87] (by decide +kernel) (by decide +kernel)
set_option maxRecDepth 20000 in
theorem gX7_difference_X6_size : GoodIn wsX7_difference (wsV RX7 155 RX6 yX6_size wsX6_size) := goodIn_app (goodIn_of _ (by decide +kernel)) ggX7_difference_X6_size
set_option maxRecDepth 20000 in
theorem ggX7_difference_X6_numberAtPlace : GoodIn wsX7_difference wsX6_numberAtPlace := goodIn_r _ [63, 32, 57, 58, 12, 59, 14, 15, 16, 64, 5, 65, 66, 67, 68, 69, 70, 71, 72, 73, 74, 75, 76, 77, 87] (by decide +kernel) (by decide +kernel)
set_option maxRecDepth 20000 in
theorem gX7_difference_X6_numberAtPlace : GoodIn wsX7_difference (wsV RX7 156 RX6 yX6_numberAtPlace wsX6_numberAtPlace) := goodIn_app (goodIn_of _ (by decide +kernel)) ggX7_difference_X6_numberAtPlace
theorem dX7_difference_0 : decode cX7_difference 0 = .ok (.iload_n 1, 1) := by decide +kernel
theorem dX7_difference_1 : decode cX7_difference 1 = .ok (.invokestatic 96, 3) := by decide +kernel
theorem dX7_difference_4 : decode cX7_difference 4 = .ok (.ifCond .eq 15, 3) := by decide +kernel
theorem dX7_difference_7 : decode cX7_difference 7 = .ok (.iload_n 2, 1) := by decide +kernel
theorem dX7_difference_8 : decode cX7_difference 8 = .ok (.invokestatic 96, 3) := by decide +kernel
theorem dX7_difference_11 : decode cX7_difference 11 = .ok (.ifCond .eq 8, 3) := by decide +kernel
theorem dX7_difference_14 : decode cX7_difference 14 = .ok (.iload_n 3, 1) := by decide +kernel
theorem dX7_difference_15 : decode cX7_difference 15 = .ok (.iconst (-1), 1) := by decide +kernel
theorem dX7_difference_16 : decode cX7_difference 16 = .ok (.if_icmp .ge 5, 3) := by decide +kernel
theorem dX7_difference_19 : decode cX7_difference 19 = .ok (.iconst (-1), 1) := by decide +kernel
theorem dX7_difference_20 : decode cX7_difference 20 = .ok (.ireturn, 1) := by decide +kernel
theorem dX7_difference_21 : decode cX7_difference 21 = .ok (.aload_n 0, 1) := by decide +kernel
theorem dX7_difference_22 : decode cX7_difference 22 = .ok (.aload_n 0, 1) := by decide +kernel
theorem dX7_difference_23 : decode cX7_difference 23 = .ok (.getfield 9, 3) := by decide +kernel
theorem dX7_difference_26 : decode cX7_difference 26 = .ok (.iload_n 1, 1) := by decide +kernel
theorem dX7_difference_27 : decode cX7_difference 27 = .ok (.laload, 1) := by decide +kernel
theorem dX7_difference_28 : decode cX7_difference 28 = .ok (.aload_n 0, 1) := by decide +kernel
theorem dX7_difference_29 : decode cX7_difference 29 = .ok (.getfield 9, 3) := by decide +kernel
theorem dX7_difference_32 : decode cX7_difference 32 = .ok (.iload_n 2, 1) := by decide +kernel
theorem dX7_difference_33 : decode cX7_difference 33 = .ok (.laload, 1) := by decide +kernel
theorem dX7_difference_34 : decode cX7_difference 34 = .ok (.invokestatic 160, 3) := by decide +kernel
theorem dX7_difference_37 : decode cX7_difference 37 = .ok (.invokevirtual 112, 3) := by decide +kernel
theorem dX7_difference_40 : decode cX7_difference 40 = .ok (.iload_n 3, 1) := by decide +kernel
theorem dX7_difference_41 : decode cX7_difference 41 = .ok (.iconst (-1), 1) := by decide +kernel
theorem dX7_difference_42 : decode cX7_difference 42 = .ok (.if_icmp .ne 13, 3) := by decide +kernel
theorem dX7_difference_45 : decode cX7_difference 45 = .ok (.aload_n 0, 1) := by decide +kernel
theorem dX7_difference_46 : decode cX7_difference 46 = .ok (.getfield 30, 3) := by decide +kernel
theorem dX7_difference_49 : decode cX7_difference 49 = .ok (.invokevirtual 155, 3) := by decide +kernel
theorem dX7_difference_52 : decode cX7_difference 52 = .ok (.goto 11, 3) := by decide +kernel
theorem dX7_difference_55 : decode cX7_difference 55 = .ok (.aload_n 0, 1) := by decide +kernel
theorem dX7_difference_56 : decode cX7_difference 56 = .ok (.getfield 30, 3) := by decide +kernel
theorem dX7_difference_59 : decode cX7_difference 59 = .ok (.iload_n 3, 1) := by decide +kernel
theorem dX7_difference_60 : decode cX7_difference 60 = .ok (.invokevirtual 156, 3) := by decide +kernel
theorem dX7_difference_63 : decode cX7_difference 63 = .ok (.ireturn, 1) := by decide +kernel
set_option maxRecDepth 20000 in
theorem ggX7_times_X7_isSlot : GoodIn wsX7_times wsX7_isSlot := goodIn_r _ [7] (by decide +kernel) (by decide +kernel)
set_option maxRecDepth 20000 in
theorem gX7_times_X7_isSlot : GoodIn wsX7_times (va_wsS RX7 96 yX7_isSlot wsX7_isSlot) := goodIn_app (goodIn_of _ (by decide +kernel)) ggX7_times_X7_isSlot
set_option maxRecDepth 20000 in
theorem ggX7_times_X6_become : GoodIn wsX7_times wsX6_become := goodIn_r _ [12, 13, 14, 15, 16, 17, 62] (by decide +kernel) (by decide +kernel)
set_option maxRecDepth 20000 in
theorem gX7_times_X6_become : GoodIn wsX7_times (wsV RX7 164 RX6 yX6_become wsX6_become) := goodIn_app (goodIn_of _ (by decide +kernel)) ggX7_times_X6_become
set_option maxRecDepth 20000 in
theorem ggX7_times_X6_becomeLike : GoodIn wsX7_times wsX6_becomeLike := goodIn_r _ [21, 13, 22, 23, 24, 25, 62] (by decide +kernel) (by decide +kernel)
set_option maxRecDepth 20000 in
theorem gX7_times_X6_becomeLike : GoodIn wsX7_times (wsV RX7 168 RX6 yX6_becomeLike wsX6_becomeLike) := goodIn_app (goodIn_of _ (by decide +kernel)) ggX7_times_X6_becomeLike
set_option maxRecDepth 20000 in
theorem ggX7_times_X6_becomeSumsOf : GoodIn wsX7_times wsX6_becomeSumsOf := goodIn_r _ [29, 13, 14, 15, 16, 17, 30, 6, 31, 32, 33, 34, 35, 36, 37, 11, 38, 39, 40, 41, 62] (by decide +kernel) (by decide +kernel)
set_option maxRecDepth 20000 in
theorem gX7_times_X6_becomeSumsOf : GoodIn wsX7_times (wsV RX7 172 RX6 yX6_becomeSumsOf wsX6_becomeSumsOf) := goodIn_app (goodIn_of _ (by decide +kernel)) ggX7_times_X6_becomeSumsOf
set_option maxRecDepth 20000 in
theorem ggX7_times_X6_size : GoodIn wsX7_times wsX6_size := goodIn_r _ [45, 13, 46, 47, 48, 49, 50, 51, 52, 62] (by decide +kernel) (by decide +kernel)
set_option maxRecDepth 20000 in
theorem gX7_times_X6_size : GoodIn wsX7_times (wsV RX7 155 RX6 yX6_size wsX6_size) := goodIn_app (goodIn_of _ (by decide +kernel)) ggX7_times_X6_size
theorem dX7_times_0 : decode cX7_times 0 = .ok (.iload_n 1, 1) := by decide +kernel
theorem dX7_times_1 : decode cX7_times 1 = .ok (.invokestatic 96, 3) := by decide +kernel
theorem dX7_times_4 : decode cX7_times 4 = .ok (.ifCond .eq 14, 3) := by decide +kernel
theorem dX7_times_7 : decode cX7_times 7 = .ok (.iload_n 2, 1) := by decide +kernel
theorem dX7_times_8 : decode cX7_times 8 = .ok (.iconst 1, 1) := by decide +kernel
theorem dX7_times_9 : decode cX7_times 9 = .ok (.if_icmp .lt 9, 3) := by decide +kernel
theorem dX7_times_12 : decode cX7_times 12 = .ok (.iload_n 2, 1) := by decide +kernel
theorem dX7_times_13 : decode cX7_times 13 = .ok (.bipush 6, 2) := by decide +kernel
theorem dX7_times_15 : decode cX7_times 15 = .ok (.if_icmp .le 5, 3) := by decide +kernel
theorem dX7_times_18 : decode cX7_times 18 = .ok (.iconst (-1), 1) := by decide +kernel
theorem dX7_times_19 : decode cX7_times 19 = .ok (.ireturn, 1) := by decide +kernel
theorem dX7_times_20 : decode cX7_times 20 = .ok (.aload_n 0, 1) := by decide +kernel
theorem dX7_times_21 : decode cX7_times 21 = .ok (.getfield 30, 3) := by decide +kernel
theorem dX7_times_24 : decode cX7_times 24 = .ok (.aload_n 0, 1) := by decide +kernel
theorem dX7_times_25 : decode cX7_times 25 = .ok (.getfield 9, 3) := by decide +kernel
theorem dX7_times_28 : decode cX7_times 28 = .ok (.iload_n 1, 1) := by decide +kernel
theorem dX7_times_29 : decode cX7_times 29 = .ok (.laload, 1) := by decide +kernel
theorem dX7_times_30 : decode cX7_times 30 = .ok (.invokevirtual 164, 3) := by decide +kernel
theorem dX7_times_33 : decode cX7_times 33 = .ok (.iconst 1, 1) := by decide +kernel
theorem dX7_times_34 : decode cX7_times 34 = .ok (.istore_n 3, 1) := by decide +kernel
theorem dX7_times_35 : decode cX7_times 35 = .ok (.iload_n 3, 1) := by decide +kernel
theorem dX7_times_36 : decode cX7_times 36 = .ok (.iload_n 2, 1) := by decide +kernel
theorem dX7_times_37 : decode cX7_times 37 = .ok (.if_icmp .ge 37, 3) := by decide +kernel
theorem dX7_times_40 : decode cX7_times 40 = .ok (.aload_n 0, 1) := by decide +kernel
theorem dX7_times_41 : decode cX7_times 41 = .ok (.getfield 34, 3) := by decide +kernel
theorem dX7_times_44 : decode cX7_times 44 = .ok (.aload_n 0, 1) := by decide +kernel
theorem dX7_times_45 : decode cX7_times 45 = .ok (.getfield 30, 3) := by decide +kernel
theorem dX7_times_48 : decode cX7_times 48 = .ok (.invokevirtual 168, 3) := by decide +kernel
theorem dX7_times_51 : decode cX7_times 51 = .ok (.aload_n 0, 1) := by decide +kernel
theorem dX7_times_52 : decode cX7_times 52 = .ok (.getfield 30, 3) := by decide +kernel
theorem dX7_times_55 : decode cX7_times 55 = .ok (.aload_n 0, 1) := by decide +kernel
theorem dX7_times_56 : decode cX7_times 56 = .ok (.getfield 9, 3) := by decide +kernel
theorem dX7_times_59 : decode cX7_times 59 = .ok (.iload_n 1, 1) := by decide +kernel
theorem dX7_times_60 : decode cX7_times 60 = .ok (.laload, 1) := by decide +kernel
theorem dX7_times_61 : decode cX7_times 61 = .ok (.aload_n 0, 1) := by decide +kernel
theorem dX7_times_62 : decode cX7_times 62 = .ok (.getfield 34, 3) := by decide +kernel
theorem dX7_times_65 : decode cX7_times 65 = .ok (.invokevirtual 172, 3) := by decide +kernel
theorem dX7_times_68 : decode cX7_times 68 = .ok (.iinc 3 1, 3) := by decide +kernel
theorem dX7_times_71 : decode cX7_times 71 = .ok (.goto (-36), 3) := by decide +kernel
theorem dX7_times_74 : decode cX7_times 74 = .ok (.aload_n 0, 1) := by decide +kernel
theorem dX7_times_75 : decode cX7_times 75 = .ok (.getfield 30, 3) := by decide +kernel
theorem dX7_times_78 : decode cX7_times 78 = .ok (.invokevirtual 155, 3) := by decide +kernel
theorem dX7_times_81 : decode cX7_times 81 = .ok (.ireturn, 1) := by decide +kernel
set_option maxRecDepth 20000 in
theorem ggX7_ways_X7_isSlot : GoodIn wsX7_ways wsX7_isSlot := goodIn_r _ [5] (by decide +kernel) (by decide +kernel)
set_option maxRecDepth 20000 in
theorem gX7_ways_X7_isSlot : GoodIn wsX7_ways (va_wsS RX7 96 yX7_isSlot wsX7_isSlot) := goodIn_app (goodIn_of _ (by decide +kernel)) ggX7_ways_X7_isSlot
set_option maxRecDepth 20000 in
theorem ggX7_ways_X7_waysOf : GoodIn wsX7_ways wsX7_waysOf := goodIn_r _ [8, 9, 10, 4, 11, 12, 13, 14] (by decide +kernel) (by decide +kernel)
set_option maxRecDepth 20000 in
theorem gX7_ways_X7_waysOf : GoodIn wsX7_ways (va_wsS RX7 176 yX7_waysOf wsX7_waysOf) := goodIn_app (goodIn_of _ (by decide +kernel)) ggX7_ways_X7_waysOf
theorem dX7_ways_0 : decode cX7_ways 0 = .ok (.iload_n 1, 1) := by decide +kernel
theorem dX7_ways_1 : decode cX7_ways 1 = .ok (.invokestatic 96, 3) := by decide +kernel
theorem dX7_ways_4 : decode cX7_ways 4 = .ok (.ifCond .eq 20, 3) := by decide +kernel
theorem dX7_ways_7 : decode cX7_ways 7 = .ok (.iload_n 2, 1) := by decide +kernel
theorem dX7_ways_8 : decode cX7_ways 8 = .ok (.invokestatic 96, 3) := by decide +kernel
theorem dX7_ways_11 : decode cX7_ways 11 = .ok (.ifCond .eq 13, 3) := by decide +kernel
theorem dX7_ways_14 : decode cX7_ways 14 = .ok (.iload_n 3, 1) := by decide +kernel
theorem dX7_ways_15 : decode cX7_ways 15 = .ok (.ifCond .lt 9, 3) := by decide +kernel
theorem dX7_ways_18 : decode cX7_ways 18 = .ok (.iload_n 3, 1) := by decide +kernel
theorem dX7_ways_19 : decode cX7_ways 19 = .ok (.bipush 80, 2) := by decide +kernel
theorem dX7_ways_21 : decode cX7_ways 21 = .ok (.if_icmp .le 5, 3) := by decide +kernel
theorem dX7_ways_24 : decode cX7_ways 24 = .ok (.iconst (-1), 1) := by decide +kernel
theorem dX7_ways_25 : decode cX7_ways 25 = .ok (.ireturn, 1) := by decide +kernel
theorem dX7_ways_26 : decode cX7_ways 26 = .ok (.aload_n 0, 1) := by decide +kernel
theorem dX7_ways_27 : decode cX7_ways 27 = .ok (.getfield 9, 3) := by decide +kernel
theorem dX7_ways_30 : decode cX7_ways 30 = .ok (.iload_n 1, 1) := by decide +kernel
theorem dX7_ways_31 : decode cX7_ways 31 = .ok (.laload, 1) := by decide +kernel
theorem dX7_ways_32 : decode cX7_ways 32 = .ok (.aload_n 0, 1) := by decide +kernel
theorem dX7_ways_33 : decode cX7_ways 33 = .ok (.getfield 9, 3) := by decide +kernel
theorem dX7_ways_36 : decode cX7_ways 36 = .ok (.iload_n 2, 1) := by decide +kernel
theorem dX7_ways_37 : decode cX7_ways 37 = .ok (.laload, 1) := by decide +kernel
theorem dX7_ways_38 : decode cX7_ways 38 = .ok (.iload_n 3, 1) := by decide +kernel
theorem dX7_ways_39 : decode cX7_ways 39 = .ok (.invokestatic 176, 3) := by decide +kernel
theorem dX7_ways_42 : decode cX7_ways 42 = .ok (.ireturn, 1) := by decide +kernel
set_option maxRecDepth 20000 in
theorem ggX7_energy_X7_isSlot : GoodIn wsX7_energy wsX7_isSlot := goodIn_r _ [5] (by decide +kernel) (by decide +kernel)
set_option maxRecDepth 20000 in
theorem gX7_energy_X7_isSlot : GoodIn wsX7_energy (va_wsS RX7 96 yX7_isSlot wsX7_isSlot) := goodIn_app (goodIn_of _ (by decide +kernel)) ggX7_energy_X7_isSlot
set_option maxRecDepth 20000 in
theorem ggX7_energy_X7_waysOf : GoodIn wsX7_energy wsX7_waysOf := goodIn_r _ [8, 9, 10, 4, 11, 12, 13, 14] (by decide +kernel) (by decide +kernel)
set_option maxRecDepth 20000 in
theorem gX7_energy_X7_waysOf : GoodIn wsX7_energy (va_wsS RX7 176 yX7_waysOf wsX7_waysOf) := goodIn_app (goodIn_of _ (by decide +kernel)) ggX7_energy_X7_waysOf
theorem dX7_energy_0 : decode cX7_energy 0 = .ok (.iload_n 1, 1) := by decide +kernel
theorem dX7_energy_1 : decode cX7_energy 1 = .ok (.invokestatic 96, 3) := by decide +kernel
theorem dX7_energy_4 : decode cX7_energy 4 = .ok (.ifCond .ne 5, 3) := by decide +kernel
theorem dX7_energy_7 : decode cX7_energy 7 = .ok (.iconst (-1), 1) := by decide +kernel
theorem dX7_energy_8 : decode cX7_energy 8 = .ok (.ireturn, 1) := by decide +kernel
theorem dX7_energy_9 : decode cX7_energy 9 = .ok (.iconst 0, 1) := by decide +kernel
theorem dX7_energy_10 : decode cX7_energy 10 = .ok (.istore_n 2, 1) := by decide +kernel
theorem dX7_energy_11 : decode cX7_energy 11 = .ok (.iconst 0, 1) := by decide +kernel
theorem dX7_energy_12 : decode cX7_energy 12 = .ok (.istore_n 3, 1) := by decide +kernel
theorem dX7_energy_13 : decode cX7_energy 13 = .ok (.iload_n 3, 1) := by decide +kernel
theorem dX7_energy_14 : decode cX7_energy 14 = .ok (.bipush 80, 2) := by decide +kernel
theorem dX7_energy_16 : decode cX7_energy 16 = .ok (.if_icmp .gt 35, 3) := by decide +kernel
theorem dX7_energy_19 : decode cX7_energy 19 = .ok (.aload_n 0, 1) := by decide +kernel
theorem dX7_energy_20 : decode cX7_energy 20 = .ok (.getfield 9, 3) := by decide +kernel
theorem dX7_energy_23 : decode cX7_energy 23 = .ok (.iload_n 1, 1) := by decide +kernel
theorem dX7_energy_24 : decode cX7_energy 24 = .ok (.laload, 1) := by decide +kernel
theorem dX7_energy_25 : decode cX7_energy 25 = .ok (.aload_n 0, 1) := by decide +kernel
theorem dX7_energy_26 : decode cX7_energy 26 = .ok (.getfield 9, 3) := by decide +kernel
theorem dX7_energy_29 : decode cX7_energy 29 = .ok (.iload_n 1, 1) := by decide +kernel
theorem dX7_energy_30 : decode cX7_energy 30 = .ok (.laload, 1) := by decide +kernel
theorem dX7_energy_31 : decode cX7_energy 31 = .ok (.iload_n 3, 1) := by decide +kernel
theorem dX7_energy_32 : decode cX7_energy 32 = .ok (.invokestatic 176, 3) := by decide +kernel
theorem dX7_energy_35 : decode cX7_energy 35 = .ok (.istore 4, 2) := by decide +kernel
theorem dX7_energy_37 : decode cX7_energy 37 = .ok (.iload_n 2, 1) := by decide +kernel
theorem dX7_energy_38 : decode cX7_energy 38 = .ok (.iload 4, 2) := by decide +kernel
theorem dX7_energy_40 : decode cX7_energy 40 = .ok (.iload 4, 2) := by decide +kernel
theorem dX7_energy_42 : decode cX7_energy 42 = .ok (.imul, 1) := by decide +kernel
theorem dX7_energy_43 : decode cX7_energy 43 = .ok (.iadd, 1) := by decide +kernel
theorem dX7_energy_44 : decode cX7_energy 44 = .ok (.istore_n 2, 1) := by decide +kernel
theorem dX7_energy_45 : decode cX7_energy 45 = .ok (.iinc 3 1, 3) := by decide +kernel
theorem dX7_energy_48 : decode cX7_energy 48 = .ok (.goto (-35), 3) := by decide +kernel
theorem dX7_energy_51 : decode cX7_energy 51 = .ok (.iload_n 2, 1) := by decide +kernel
theorem dX7_energy_52 : decode cX7_energy 52 = .ok (.ireturn, 1) := by decide +kernel
set_option maxRecDepth 20000 in
theorem ggX7_cover_X7_isSlot : GoodIn wsX7_cover wsX7_isSlot := goodIn_r _ [5] (by decide +kernel) (by decide +kernel)
set_option maxRecDepth 20000 in
theorem gX7_cover_X7_isSlot : GoodIn wsX7_cover (va_wsS RX7 96 yX7_isSlot wsX7_isSlot) := goodIn_app (goodIn_of _ (by decide +kernel)) ggX7_cover_X7_isSlot
set_option maxRecDepth 20000 in
theorem ggX7_cover_X7_leastOf : GoodIn wsX7_cover wsX7_leastOf := goodIn_r _ [8, 9, 10, 11, 12, 13, 14, 15, 16, 17] (by decide +kernel) (by decide +kernel)
set_option maxRecDepth 20000 in
theorem gX7_cover_X7_leastOf : GoodIn wsX7_cover (va_wsS RX7 180 yX7_leastOf wsX7_leastOf) := goodIn_app (goodIn_of _ (by decide +kernel)) ggX7_cover_X7_leastOf
set_option maxRecDepth 20000 in
theorem ggX7_cover_X7_coverStep : GoodIn wsX7_cover wsX7_coverStep := goodIn_r _ [20, 6, 7, 4, 8, 9, 10, 11, 12, 13, 14, 15, 16, 17, 21, 22, 23, 24, 25, 26, 27, 28, 29] (by decide +kernel) (by decide +kernel)
set_option maxRecDepth 20000 in
theorem gX7_cover_X7_coverStep : GoodIn wsX7_cover (va_wsS RX7 183 yX7_coverStep wsX7_coverStep) := goodIn_app (goodIn_of _ (by decide +kernel)) ggX7_cover_X7_coverStep
set_option maxRecDepth 20000 in
theorem ggX7_cover_X7_coverLength : GoodIn wsX7_cover wsX7_coverLength := goodIn_r _ [32, 18, 19, 4, 20, 6, 7, 8, 9, 10, 11, 12, 13, 14, 15, 16, 17, 21, 22, 23, 24, 25, 26, 27, 28, 29, 33, 34, 35, 36, 37, 38, 39, 40, 41] (by decide +kernel) (by decide +kernel)
set_option maxRecDepth 20000 in
theorem gX7_cover_X7_coverLength : GoodIn wsX7_cover (va_wsS RX7 186 yX7_coverLength wsX7_coverLength) := goodIn_app (goodIn_of _ (by decide +kernel)) ggX7_cover_X7_coverLength
theorem dX7_cover_0 : decode cX7_cover 0 = .ok (.iload_n 1, 1) := by decide +kernel
theorem dX7_cover_1 : decode cX7_cover 1 = .ok (.invokestatic 96, 3) := by decide +kernel
theorem dX7_cover_4 : decode cX7_cover 4 = .ok (.ifCond .eq 12, 3) := by decide +kernel
theorem dX7_cover_7 : decode cX7_cover 7 = .ok (.iload_n 2, 1) := by decide +kernel
theorem dX7_cover_8 : decode cX7_cover 8 = .ok (.ifCond .lt 8, 3) := by decide +kernel
theorem dX7_cover_11 : decode cX7_cover 11 = .ok (.iload_n 2, 1) := by decide +kernel
theorem dX7_cover_12 : decode cX7_cover 12 = .ok (.iconst 2, 1) := by decide +kernel
theorem dX7_cover_13 : decode cX7_cover 13 = .ok (.if_icmp .le 5, 3) := by decide +kernel
theorem dX7_cover_16 : decode cX7_cover 16 = .ok (.iconst (-1), 1) := by decide +kernel
theorem dX7_cover_17 : decode cX7_cover 17 = .ok (.ireturn, 1) := by decide +kernel
theorem dX7_cover_18 : decode cX7_cover 18 = .ok (.aload_n 0, 1) := by decide +kernel
theorem dX7_cover_19 : decode cX7_cover 19 = .ok (.getfield 9, 3) := by decide +kernel
theorem dX7_cover_22 : decode cX7_cover 22 = .ok (.iload_n 1, 1) := by decide +kernel
theorem dX7_cover_23 : decode cX7_cover 23 = .ok (.laload, 1) := by decide +kernel
theorem dX7_cover_24 : decode cX7_cover 24 = .ok (.lconst 0, 1) := by decide +kernel
theorem dX7_cover_25 : decode cX7_cover 25 = .ok (.lcmp, 1) := by decide +kernel
theorem dX7_cover_26 : decode cX7_cover 26 = .ok (.ifCond .ne 6, 3) := by decide +kernel
theorem dX7_cover_29 : decode cX7_cover 29 = .ok (.bipush (-2), 2) := by decide +kernel
theorem dX7_cover_31 : decode cX7_cover 31 = .ok (.ireturn, 1) := by decide +kernel
theorem dX7_cover_32 : decode cX7_cover 32 = .ok (.iload_n 2, 1) := by decide +kernel
theorem dX7_cover_33 : decode cX7_cover 33 = .ok (.lookupswitch 47 #[(0, 27), (1, 37)], 27) := by decide +kernel
theorem dX7_cover_60 : decode cX7_cover 60 = .ok (.aload_n 0, 1) := by decide +kernel
theorem dX7_cover_61 : decode cX7_cover 61 = .ok (.getfield 9, 3) := by decide +kernel
theorem dX7_cover_64 : decode cX7_cover 64 = .ok (.iload_n 1, 1) := by decide +kernel
theorem dX7_cover_65 : decode cX7_cover 65 = .ok (.laload, 1) := by decide +kernel
theorem dX7_cover_66 : decode cX7_cover 66 = .ok (.invokestatic 180, 3) := by decide +kernel
theorem dX7_cover_69 : decode cX7_cover 69 = .ok (.ireturn, 1) := by decide +kernel
theorem dX7_cover_70 : decode cX7_cover 70 = .ok (.aload_n 0, 1) := by decide +kernel
theorem dX7_cover_71 : decode cX7_cover 71 = .ok (.getfield 9, 3) := by decide +kernel
theorem dX7_cover_74 : decode cX7_cover 74 = .ok (.iload_n 1, 1) := by decide +kernel
theorem dX7_cover_75 : decode cX7_cover 75 = .ok (.laload, 1) := by decide +kernel
theorem dX7_cover_76 : decode cX7_cover 76 = .ok (.invokestatic 183, 3) := by decide +kernel
theorem dX7_cover_79 : decode cX7_cover 79 = .ok (.ireturn, 1) := by decide +kernel
theorem dX7_cover_80 : decode cX7_cover 80 = .ok (.aload_n 0, 1) := by decide +kernel
theorem dX7_cover_81 : decode cX7_cover 81 = .ok (.getfield 9, 3) := by decide +kernel
theorem dX7_cover_84 : decode cX7_cover 84 = .ok (.iload_n 1, 1) := by decide +kernel
theorem dX7_cover_85 : decode cX7_cover 85 = .ok (.laload, 1) := by decide +kernel
theorem dX7_cover_86 : decode cX7_cover 86 = .ok (.invokestatic 186, 3) := by decide +kernel
theorem dX7_cover_89 : decode cX7_cover 89 = .ok (.ireturn, 1) := by decide +kernel
set_option maxRecDepth 20000 in
theorem ggX7_grid_X7_isSlot : GoodIn wsX7_grid wsX7_isSlot := goodIn_r _ [6] (by decide +kernel) (by decide +kernel)
set_option maxRecDepth 20000 in
theorem gX7_grid_X7_isSlot : GoodIn wsX7_grid (va_wsS RX7 96 yX7_isSlot wsX7_isSlot) := goodIn_app (goodIn_of _ (by decide +kernel)) ggX7_grid_X7_isSlot
set_option maxRecDepth 20000 in
theorem ggX7_grid_X0_seek : GoodIn wsX7_grid wsX0_seek := goodIn_r _ [11, 12, 13, 14, 15, 16, 17, 18, 19, 20, 21, 22, 5, 23, 24, 25, 26, 27, 28, 29, 30, 31, 32, 33, 34, 35, 36, 37, 38, 39, 40, 41, 42, 43, 44, 45, 46, 47, 48, 49, 10, 50, 51, 52, 53, 54, 55, 56, 57, 58, 59, 60, 61, 62, 63, 64, 65, 66, 67, 68, 69, 70, 71, 72, 73, 74, 75, 76, 77, 91, 92, 93, 94, 95, 96, 97, 98, 99, 100, 101] (by decide +kernel) (by decide +kernel)
set_option maxRecDepth 20000 in
theorem gX7_grid_X0_seek : GoodIn wsX7_grid (wsV RX7 189 RX0 yX0_seek wsX0_seek) := goodIn_app (goodIn_of _ (by decide +kernel)) ggX7_grid_X0_seek
set_option maxRecDepth 20000 in
theorem ggX7_grid_X0_answer : GoodIn wsX7_grid wsX0_answer := goodIn_r _ [81, 14, 60, 61, 62, 63, 91, 92, 93, 94, 95, 96, 97, 98, 99, 100, 101] (by decide +kernel) (by decide +kernel)
set_option maxRecDepth 20000 in
theorem gX7_grid_X0_answer : GoodIn wsX7_grid (wsV RX7 192 RX0 yX0_answer wsX0_answer) := goodIn_app (goodIn_of _ (by decide +kernel)) ggX7_grid_X0_answer
theorem dX7_grid_0 : decode cX7_grid 0 = .ok (.iload_n 1, 1) := by decide +kernel
theorem dX7_grid_1 : decode cX7_grid 1 = .ok (.invokestatic 96, 3) := by decide +kernel
theorem dX7_grid_4 : decode cX7_grid 4 = .ok (.ifCond .eq 12, 3) := by decide +kernel
theorem dX7_grid_7 : decode cX7_grid 7 = .ok (.iload_n 2, 1) := by decide +kernel
theorem dX7_grid_8 : decode cX7_grid 8 = .ok (.ifCond .lt 8, 3) := by decide +kernel
theorem dX7_grid_11 : decode cX7_grid 11 = .ok (.iload_n 2, 1) := by decide +kernel
theorem dX7_grid_12 : decode cX7_grid 12 = .ok (.iconst 4, 1) := by decide +kernel
theorem dX7_grid_13 : decode cX7_grid 13 = .ok (.if_icmp .le 5, 3) := by decide +kernel
theorem dX7_grid_16 : decode cX7_grid 16 = .ok (.iconst (-1), 1) := by decide +kernel
theorem dX7_grid_17 : decode cX7_grid 17 = .ok (.ireturn, 1) := by decide +kernel
theorem dX7_grid_18 : decode cX7_grid 18 = .ok (.aload_n 0, 1) := by decide +kernel
theorem dX7_grid_19 : decode cX7_grid 19 = .ok (.getfield 9, 3) := by decide +kernel
theorem dX7_grid_22 : decode cX7_grid 22 = .ok (.iload_n 1, 1) := by decide +kernel
theorem dX7_grid_23 : decode cX7_grid 23 = .ok (.laload, 1) := by decide +kernel
theorem dX7_grid_24 : decode cX7_grid 24 = .ok (.lconst 0, 1) := by decide +kernel
theorem dX7_grid_25 : decode cX7_grid 25 = .ok (.lcmp, 1) := by decide +kernel
theorem dX7_grid_26 : decode cX7_grid 26 = .ok (.ifCond .ne 6, 3) := by decide +kernel
theorem dX7_grid_29 : decode cX7_grid 29 = .ok (.bipush (-2), 2) := by decide +kernel
theorem dX7_grid_31 : decode cX7_grid 31 = .ok (.ireturn, 1) := by decide +kernel
theorem dX7_grid_32 : decode cX7_grid 32 = .ok (.aload_n 0, 1) := by decide +kernel
theorem dX7_grid_33 : decode cX7_grid 33 = .ok (.getfield 40, 3) := by decide +kernel
theorem dX7_grid_36 : decode cX7_grid 36 = .ok (.aload_n 0, 1) := by decide +kernel
theorem dX7_grid_37 : decode cX7_grid 37 = .ok (.getfield 9, 3) := by decide +kernel
theorem dX7_grid_40 : decode cX7_grid 40 = .ok (.iload_n 1, 1) := by decide +kernel
theorem dX7_grid_41 : decode cX7_grid 41 = .ok (.laload, 1) := by decide +kernel
theorem dX7_grid_42 : decode cX7_grid 42 = .ok (.invokevirtual 189, 3) := by decide +kernel
theorem dX7_grid_45 : decode cX7_grid 45 = .ok (.ifCond .eq 14, 3) := by decide +kernel
theorem dX7_grid_48 : decode cX7_grid 48 = .ok (.aload_n 0, 1) := by decide +kernel
theorem dX7_grid_49 : decode cX7_grid 49 = .ok (.getfield 40, 3) := by decide +kernel
theorem dX7_grid_52 : decode cX7_grid 52 = .ok (.iload_n 2, 1) := by decide +kernel
theorem dX7_grid_53 : decode cX7_grid 53 = .ok (.invokevirtual 192, 3) := by decide +kernel
theorem dX7_grid_56 : decode cX7_grid 56 = .ok (.goto 5, 3) := by decide +kernel
theorem dX7_grid_59 : decode cX7_grid 59 = .ok (.bipush (-4), 2) := by decide +kernel
theorem dX7_grid_61 : decode cX7_grid 61 = .ok (.ireturn, 1) := by decide +kernel
set_option maxRecDepth 20000 in
theorem ggX7_alike_X7_isSlot : GoodIn wsX7_alike wsX7_isSlot := goodIn_r _ [6] (by decide +kernel) (by decide +kernel)
set_option maxRecDepth 20000 in
theorem gX7_alike_X7_isSlot : GoodIn wsX7_alike (va_wsS RX7 96 yX7_isSlot wsX7_isSlot) := goodIn_app (goodIn_of _ (by decide +kernel)) ggX7_alike_X7_isSlot
set_option maxRecDepth 20000 in
theorem ggX7_alike_X7_canPair : GoodIn wsX7_alike wsX7_canPair := goodIn_r _ [10, 2, 11, 12, 13, 14, 15, 16, 17, 62, 63, 64, 65, 66, 67, 68, 69, 70] (by decide +kernel) (by decide +kernel)
set_option maxRecDepth 20000 in
theorem gX7_alike_X7_canPair : GoodIn wsX7_alike (wsV RX7 195 RX7 yX7_canPair wsX7_canPair) := goodIn_app (goodIn_of _ (by decide +kernel)) ggX7_alike_X7_canPair
set_option maxRecDepth 20000 in
theorem ggX7_alike_X2_seek : GoodIn wsX7_alike wsX2_seek := goodIn_r _ [22, 23, 24, 25, 26, 27, 28, 29, 30, 31, 32, 33, 34, 35, 36, 5, 37, 38, 39, 40, 41, 42, 43, 44, 45, 46, 47, 48, 49, 21, 50, 51, 52, 53, 54, 55, 56, 57, 58, 59, 60, 61, 71, 72, 73, 74, 75, 76, 77, 78, 79, 80, 81, 82] (by decide +kernel) (by decide +kernel)
set_option maxRecDepth 20000 in
theorem gX7_alike_X2_seek : GoodIn wsX7_alike (wsV RX7 198 RX2 yX2_seek wsX2_seek) := goodIn_app (goodIn_of _ (by decide +kernel)) ggX7_alike_X2_seek
theorem dX7_alike_0 : decode cX7_alike 0 = .ok (.iload_n 1, 1) := by decide +kernel
theorem dX7_alike_1 : decode cX7_alike 1 = .ok (.invokestatic 96, 3) := by decide +kernel
theorem dX7_alike_4 : decode cX7_alike 4 = .ok (.ifCond .eq 10, 3) := by decide +kernel
theorem dX7_alike_7 : decode cX7_alike 7 = .ok (.iload_n 2, 1) := by decide +kernel
theorem dX7_alike_8 : decode cX7_alike 8 = .ok (.invokestatic 96, 3) := by decide +kernel
theorem dX7_alike_11 : decode cX7_alike 11 = .ok (.ifCond .ne 5, 3) := by decide +kernel
theorem dX7_alike_14 : decode cX7_alike 14 = .ok (.iconst (-1), 1) := by decide +kernel
theorem dX7_alike_15 : decode cX7_alike 15 = .ok (.ireturn, 1) := by decide +kernel
theorem dX7_alike_16 : decode cX7_alike 16 = .ok (.aload_n 0, 1) := by decide +kernel
theorem dX7_alike_17 : decode cX7_alike 17 = .ok (.iload_n 1, 1) := by decide +kernel
theorem dX7_alike_18 : decode cX7_alike 18 = .ok (.iload_n 2, 1) := by decide +kernel
theorem dX7_alike_19 : decode cX7_alike 19 = .ok (.invokevirtual 195, 3) := by decide +kernel
theorem dX7_alike_22 : decode cX7_alike 22 = .ok (.ifCond .ne 6, 3) := by decide +kernel
theorem dX7_alike_25 : decode cX7_alike 25 = .ok (.bipush (-2), 2) := by decide +kernel
theorem dX7_alike_27 : decode cX7_alike 27 = .ok (.ireturn, 1) := by decide +kernel
theorem dX7_alike_28 : decode cX7_alike 28 = .ok (.aload_n 0, 1) := by decide +kernel
theorem dX7_alike_29 : decode cX7_alike 29 = .ok (.getfield 47, 3) := by decide +kernel
theorem dX7_alike_32 : decode cX7_alike 32 = .ok (.aload_n 0, 1) := by decide +kernel
theorem dX7_alike_33 : decode cX7_alike 33 = .ok (.getfield 9, 3) := by decide +kernel
theorem dX7_alike_36 : decode cX7_alike 36 = .ok (.iload_n 1, 1) := by decide +kernel
theorem dX7_alike_37 : decode cX7_alike 37 = .ok (.laload, 1) := by decide +kernel
theorem dX7_alike_38 : decode cX7_alike 38 = .ok (.aload_n 0, 1) := by decide +kernel
theorem dX7_alike_39 : decode cX7_alike 39 = .ok (.getfield 9, 3) := by decide +kernel
theorem dX7_alike_42 : decode cX7_alike 42 = .ok (.iload_n 2, 1) := by decide +kernel
theorem dX7_alike_43 : decode cX7_alike 43 = .ok (.laload, 1) := by decide +kernel
theorem dX7_alike_44 : decode cX7_alike 44 = .ok (.invokevirtual 198, 3) := by decide +kernel
theorem dX7_alike_47 : decode cX7_alike 47 = .ok (.ifCond .eq 7, 3) := by decide +kernel
theorem dX7_alike_50 : decode cX7_alike 50 = .ok (.iconst 1, 1) := by decide +kernel
theorem dX7_alike_51 : decode cX7_alike 51 = .ok (.goto 4, 3) := by decide +kernel
theorem dX7_alike_54 : decode cX7_alike 54 = .ok (.iconst 0, 1) := by decide +kernel
theorem dX7_alike_55 : decode cX7_alike 55 = .ok (.ireturn, 1) := by decide +kernel
set_option maxRecDepth 20000 in
theorem ggX7_partner_X7_isSlot : GoodIn wsX7_partner wsX7_isSlot := goodIn_r _ [6] (by decide +kernel) (by decide +kernel)
set_option maxRecDepth 20000 in
theorem gX7_partner_X7_isSlot : GoodIn wsX7_partner (va_wsS RX7 96 yX7_isSlot wsX7_isSlot) := goodIn_app (goodIn_of _ (by decide +kernel)) ggX7_partner_X7_isSlot
set_option maxRecDepth 20000 in
theorem ggX7_partner_X7_canPair : GoodIn wsX7_partner wsX7_canPair := goodIn_r _ [10, 2, 11, 12, 13, 14, 15, 16, 17, 66, 67, 68, 69, 70, 71, 72, 73, 74] (by decide +kernel) (by decide +kernel)
set_option maxRecDepth 20000 in
theorem gX7_partner_X7_canPair : GoodIn wsX7_partner (wsV RX7 195 RX7 yX7_canPair wsX7_canPair) := goodIn_app (goodIn_of _ (by decide +kernel)) ggX7_partner_X7_canPair
set_option maxRecDepth 20000 in
theorem ggX7_partner_X2_seek : GoodIn wsX7_partner wsX2_seek := goodIn_r _ [22, 23, 24, 25, 26, 27, 28, 29, 30, 31, 32, 33, 34, 35, 36, 5, 37, 38, 39, 40, 41, 42, 43, 44, 45, 46, 47, 48, 49, 21, 50, 51, 52, 53, 54, 55, 56, 57, 58, 59, 60, 61, 75, 76, 77, 78, 79, 80, 81, 82, 83, 84, 85, 86] (by decide +kernel) (by decide +kernel)
set_option maxRecDepth 20000 in
theorem gX7_partner_X2_seek : GoodIn wsX7_partner (wsV RX7 198 RX2 yX2_seek wsX2_seek) := goodIn_app (goodIn_of _ (by decide +kernel)) ggX7_partner_X2_seek
set_option maxRecDepth 20000 in
theorem ggX7_partner_X2_partnerOf : GoodIn wsX7_partner wsX2_partnerOf := goodIn_r _ [65, 31, 26, 55, 75, 76, 77, 78, 79, 80, 81, 82, 83, 84, 85, 86] (by decide +kernel) (by decide +kernel)
set_option maxRecDepth 20000 in
theorem gX7_partner_X2_partnerOf : GoodIn wsX7_partner (wsV RX7 201 RX2 yX2_partnerOf wsX2_partnerOf) := goodIn_app (goodIn_of _ (by decide +kernel)) ggX7_partner_X2_partnerOf
theorem dX7_partner_0 : decode cX7_partner 0 = .ok (.iload_n 1, 1) := by decide +kernel
theorem dX7_partner_1 : decode cX7_partner 1 = .ok (.invokestatic 96, 3) := by decide +kernel
theorem dX7_partner_4 : decode cX7_partner 4 = .ok (.ifCond .eq 14, 3) := by decide +kernel
theorem dX7_partner_7 : decode cX7_partner 7 = .ok (.iload_n 2, 1) := by decide +kernel
theorem dX7_partner_8 : decode cX7_partner 8 = .ok (.invokestatic 96, 3) := by decide +kernel
theorem dX7_partner_11 : decode cX7_partner 11 = .ok (.ifCond .eq 7, 3) := by decide +kernel
theorem dX7_partner_14 : decode cX7_partner 14 = .ok (.iload_n 3, 1) := by decide +kernel
theorem dX7_partner_15 : decode cX7_partner 15 = .ok (.ifCond .ge 5, 3) := by decide +kernel
theorem dX7_partner_18 : decode cX7_partner 18 = .ok (.iconst (-1), 1) := by decide +kernel
theorem dX7_partner_19 : decode cX7_partner 19 = .ok (.ireturn, 1) := by decide +kernel
theorem dX7_partner_20 : decode cX7_partner 20 = .ok (.aload_n 0, 1) := by decide +kernel
theorem dX7_partner_21 : decode cX7_partner 21 = .ok (.iload_n 1, 1) := by decide +kernel
theorem dX7_partner_22 : decode cX7_partner 22 = .ok (.iload_n 2, 1) := by decide +kernel
theorem dX7_partner_23 : decode cX7_partner 23 = .ok (.invokevirtual 195, 3) := by decide +kernel
theorem dX7_partner_26 : decode cX7_partner 26 = .ok (.ifCond .ne 6, 3) := by decide +kernel
theorem dX7_partner_29 : decode cX7_partner 29 = .ok (.bipush (-2), 2) := by decide +kernel
theorem dX7_partner_31 : decode cX7_partner 31 = .ok (.ireturn, 1) := by decide +kernel
theorem dX7_partner_32 : decode cX7_partner 32 = .ok (.aload_n 0, 1) := by decide +kernel
theorem dX7_partner_33 : decode cX7_partner 33 = .ok (.getfield 47, 3) := by decide +kernel
theorem dX7_partner_36 : decode cX7_partner 36 = .ok (.aload_n 0, 1) := by decide +kernel
theorem dX7_partner_37 : decode cX7_partner 37 = .ok (.getfield 9, 3) := by decide +kernel
theorem dX7_partner_40 : decode cX7_partner 40 = .ok (.iload_n 1, 1) := by decide +kernel
theorem dX7_partner_41 : decode cX7_partner 41 = .ok (.laload, 1) := by decide +kernel
theorem dX7_partner_42 : decode cX7_partner 42 = .ok (.aload_n 0, 1) := by decide +kernel
theorem dX7_partner_43 : decode cX7_partner 43 = .ok (.getfield 9, 3) := by decide +kernel
theorem dX7_partner_46 : decode cX7_partner 46 = .ok (.iload_n 2, 1) := by decide +kernel
theorem dX7_partner_47 : decode cX7_partner 47 = .ok (.laload, 1) := by decide +kernel
theorem dX7_partner_48 : decode cX7_partner 48 = .ok (.invokevirtual 198, 3) := by decide +kernel
theorem dX7_partner_51 : decode cX7_partner 51 = .ok (.ifCond .eq 14, 3) := by decide +kernel
theorem dX7_partner_54 : decode cX7_partner 54 = .ok (.aload_n 0, 1) := by decide +kernel
theorem dX7_partner_55 : decode cX7_partner 55 = .ok (.getfield 47, 3) := by decide +kernel
theorem dX7_partner_58 : decode cX7_partner 58 = .ok (.iload_n 3, 1) := by decide +kernel
theorem dX7_partner_59 : decode cX7_partner 59 = .ok (.invokevirtual 201, 3) := by decide +kernel
theorem dX7_partner_62 : decode cX7_partner 62 = .ok (.goto 5, 3) := by decide +kernel
theorem dX7_partner_65 : decode cX7_partner 65 = .ok (.bipush (-4), 2) := by decide +kernel
theorem dX7_partner_67 : decode cX7_partner 67 = .ok (.ireturn, 1) := by decide +kernel
set_option maxRecDepth 20000 in
theorem ggX7_swell_X7_isSlot : GoodIn wsX7_swell wsX7_isSlot := goodIn_r _ [6] (by decide +kernel) (by decide +kernel)
set_option maxRecDepth 20000 in
theorem gX7_swell_X7_isSlot : GoodIn wsX7_swell (va_wsS RX7 96 yX7_isSlot wsX7_isSlot) := goodIn_app (goodIn_of _ (by decide +kernel)) ggX7_swell_X7_isSlot
set_option maxRecDepth 20000 in
theorem ggX7_swell_X7_canSwell : GoodIn wsX7_swell wsX7_canSwell := goodIn_r _ [10, 2, 11, 12, 13, 14, 15, 16, 17, 77, 78, 79, 80, 81, 82, 83, 84, 85] (by decide +kernel) (by decide +kernel)
set_option maxRecDepth 20000 in
theorem gX7_swell_X7_canSwell : GoodIn wsX7_swell (wsV RX7 123 RX7 yX7_canSwell wsX7_canSwell) := goodIn_app (goodIn_of _ (by decide +kernel)) ggX7_swell_X7_canSwell
set_option maxRecDepth 20000 in
theorem ggX7_swell_X5_seek : GoodIn wsX7_swell wsX5_seek := goodIn_r _ [22, 23, 24, 25, 26, 27, 28, 29, 30, 31, 32, 33, 5, 34, 35, 36, 37, 38, 39, 40, 41, 42, 43, 44, 45, 46, 47, 48, 21, 49, 50, 51, 52, 53, 54, 12, 13, 14, 15, 16, 17, 55, 56, 57, 58, 59, 60, 61, 62, 63, 64, 65, 66, 67, 68, 69, 70, 86, 87, 88, 89, 90, 91, 92, 93] (by decide +kernel) (by decide +kernel)
set_option maxRecDepth 20000 in
theorem gX7_swell_X5_seek : GoodIn wsX7_swell (wsV RX7 127 RX5 yX5_seek wsX5_seek) := goodIn_app (goodIn_of _ (by decide +kernel)) ggX7_swell_X5_seek
set_option maxRecDepth 20000 in
theorem ggX7_swell_X5_answer : GoodIn wsX7_swell wsX5_answer := goodIn_r _ [74, 60, 59, 25, 75, 5, 76, 86, 87, 88, 89, 90, 91, 92, 93] (by decide +kernel) (by decide +kernel)
set_option maxRecDepth 20000 in
theorem gX7_swell_X5_answer : GoodIn wsX7_swell (wsV RX7 204 RX5 yX5_answer wsX5_answer) := goodIn_app (goodIn_of _ (by decide +kernel)) ggX7_swell_X5_answer
theorem dX7_swell_0 : decode cX7_swell 0 = .ok (.iload_n 1, 1) := by decide +kernel
theorem dX7_swell_1 : decode cX7_swell 1 = .ok (.invokestatic 96, 3) := by decide +kernel
theorem dX7_swell_4 : decode cX7_swell 4 = .ok (.ifCond .eq 19, 3) := by decide +kernel
theorem dX7_swell_7 : decode cX7_swell 7 = .ok (.iload_n 2, 1) := by decide +kernel
theorem dX7_swell_8 : decode cX7_swell 8 = .ok (.invokestatic 96, 3) := by decide +kernel
theorem dX7_swell_11 : decode cX7_swell 11 = .ok (.ifCond .eq 12, 3) := by decide +kernel
theorem dX7_swell_14 : decode cX7_swell 14 = .ok (.iload_n 3, 1) := by decide +kernel
theorem dX7_swell_15 : decode cX7_swell 15 = .ok (.ifCond .lt 8, 3) := by decide +kernel
theorem dX7_swell_18 : decode cX7_swell 18 = .ok (.iload_n 3, 1) := by decide +kernel
theorem dX7_swell_19 : decode cX7_swell 19 = .ok (.iconst 2, 1) := by decide +kernel
theorem dX7_swell_20 : decode cX7_swell 20 = .ok (.if_icmp .le 5, 3) := by decide +kernel
theorem dX7_swell_23 : decode cX7_swell 23 = .ok (.iconst (-1), 1) := by decide +kernel
theorem dX7_swell_24 : decode cX7_swell 24 = .ok (.ireturn, 1) := by decide +kernel
theorem dX7_swell_25 : decode cX7_swell 25 = .ok (.aload_n 0, 1) := by decide +kernel
theorem dX7_swell_26 : decode cX7_swell 26 = .ok (.iload_n 1, 1) := by decide +kernel
theorem dX7_swell_27 : decode cX7_swell 27 = .ok (.iload_n 2, 1) := by decide +kernel
theorem dX7_swell_28 : decode cX7_swell 28 = .ok (.invokevirtual 123, 3) := by decide +kernel
theorem dX7_swell_31 : decode cX7_swell 31 = .ok (.ifCond .ne 6, 3) := by decide +kernel
theorem dX7_swell_34 : decode cX7_swell 34 = .ok (.bipush (-2), 2) := by decide +kernel
theorem dX7_swell_36 : decode cX7_swell 36 = .ok (.ireturn, 1) := by decide +kernel
theorem dX7_swell_37 : decode cX7_swell 37 = .ok (.aload_n 0, 1) := by decide +kernel
theorem dX7_swell_38 : decode cX7_swell 38 = .ok (.getfield 54, 3) := by decide +kernel
theorem dX7_swell_41 : decode cX7_swell 41 = .ok (.aload_n 0, 1) := by decide +kernel
theorem dX7_swell_42 : decode cX7_swell 42 = .ok (.getfield 9, 3) := by decide +kernel
theorem dX7_swell_45 : decode cX7_swell 45 = .ok (.iload_n 1, 1) := by decide +kernel
theorem dX7_swell_46 : decode cX7_swell 46 = .ok (.laload, 1) := by decide +kernel
theorem dX7_swell_47 : decode cX7_swell 47 = .ok (.aload_n 0, 1) := by decide +kernel
theorem dX7_swell_48 : decode cX7_swell 48 = .ok (.getfield 9, 3) := by decide +kernel
theorem dX7_swell_51 : decode cX7_swell 51 = .ok (.iload_n 2, 1) := by decide +kernel
theorem dX7_swell_52 : decode cX7_swell 52 = .ok (.laload, 1) := by decide +kernel
theorem dX7_swell_53 : decode cX7_swell 53 = .ok (.invokevirtual 127, 3) := by decide +kernel
theorem dX7_swell_56 : decode cX7_swell 56 = .ok (.aload_n 0, 1) := by decide +kernel
theorem dX7_swell_57 : decode cX7_swell 57 = .ok (.getfield 54, 3) := by decide +kernel
theorem dX7_swell_60 : decode cX7_swell 60 = .ok (.iload_n 3, 1) := by decide +kernel
theorem dX7_swell_61 : decode cX7_swell 61 = .ok (.invokevirtual 204, 3) := by decide +kernel
theorem dX7_swell_64 : decode cX7_swell 64 = .ok (.ireturn, 1) := by decide +kernel
set_option maxRecDepth 20000 in
theorem ggX7_floor_X7_isSlot : GoodIn wsX7_floor wsX7_isSlot := goodIn_r _ [5] (by decide +kernel) (by decide +kernel)
set_option maxRecDepth 20000 in
theorem gX7_floor_X7_isSlot : GoodIn wsX7_floor (va_wsS RX7 96 yX7_isSlot wsX7_isSlot) := goodIn_app (goodIn_of _ (by decide +kernel)) ggX7_floor_X7_isSlot
set_option maxRecDepth 20000 in
theorem ggX7_floor_X7_fewestSums : GoodIn wsX7_floor wsX7_fewestSums := goodIn_r _ [8, 9, 10, 11, 12, 13, 14, 15] (by decide +kernel) (by decide +kernel)
set_option maxRecDepth 20000 in
theorem gX7_floor_X7_fewestSums : GoodIn wsX7_floor (va_wsS RX7 205 yX7_fewestSums wsX7_fewestSums) := goodIn_app (goodIn_of _ (by decide +kernel)) ggX7_floor_X7_fewestSums
theorem dX7_floor_0 : decode cX7_floor 0 = .ok (.iload_n 1, 1) := by decide +kernel
theorem dX7_floor_1 : decode cX7_floor 1 = .ok (.invokestatic 96, 3) := by decide +kernel
theorem dX7_floor_4 : decode cX7_floor 4 = .ok (.ifCond .eq 10, 3) := by decide +kernel
theorem dX7_floor_7 : decode cX7_floor 7 = .ok (.iload_n 2, 1) := by decide +kernel
theorem dX7_floor_8 : decode cX7_floor 8 = .ok (.invokestatic 96, 3) := by decide +kernel
theorem dX7_floor_11 : decode cX7_floor 11 = .ok (.ifCond .ne 5, 3) := by decide +kernel
theorem dX7_floor_14 : decode cX7_floor 14 = .ok (.iconst (-1), 1) := by decide +kernel
theorem dX7_floor_15 : decode cX7_floor 15 = .ok (.ireturn, 1) := by decide +kernel
theorem dX7_floor_16 : decode cX7_floor 16 = .ok (.aload_n 0, 1) := by decide +kernel
theorem dX7_floor_17 : decode cX7_floor 17 = .ok (.getfield 9, 3) := by decide +kernel
theorem dX7_floor_20 : decode cX7_floor 20 = .ok (.iload_n 1, 1) := by decide +kernel
theorem dX7_floor_21 : decode cX7_floor 21 = .ok (.laload, 1) := by decide +kernel
theorem dX7_floor_22 : decode cX7_floor 22 = .ok (.lconst 0, 1) := by decide +kernel
theorem dX7_floor_23 : decode cX7_floor 23 = .ok (.lcmp, 1) := by decide +kernel
theorem dX7_floor_24 : decode cX7_floor 24 = .ok (.ifCond .eq 14, 3) := by decide +kernel
theorem dX7_floor_27 : decode cX7_floor 27 = .ok (.aload_n 0, 1) := by decide +kernel
theorem dX7_floor_28 : decode cX7_floor 28 = .ok (.getfield 9, 3) := by decide +kernel
theorem dX7_floor_31 : decode cX7_floor 31 = .ok (.iload_n 2, 1) := by decide +kernel
theorem dX7_floor_32 : decode cX7_floor 32 = .ok (.laload, 1) := by decide +kernel
theorem dX7_floor_33 : decode cX7_floor 33 = .ok (.lconst 0, 1) := by decide +kernel
theorem dX7_floor_34 : decode cX7_floor 34 = .ok (.lcmp, 1) := by decide +kernel
theorem dX7_floor_35 : decode cX7_floor 35 = .ok (.ifCond .ne 8, 3) := by decide +kernel
theorem dX7_floor_38 : decode cX7_floor 38 = .ok (.bipush (-2), 2) := by decide +kernel
theorem dX7_floor_40 : decode cX7_floor 40 = .ok (.goto 18, 3) := by decide +kernel
theorem dX7_floor_43 : decode cX7_floor 43 = .ok (.aload_n 0, 1) := by decide +kernel
theorem dX7_floor_44 : decode cX7_floor 44 = .ok (.getfield 9, 3) := by decide +kernel
theorem dX7_floor_47 : decode cX7_floor 47 = .ok (.iload_n 1, 1) := by decide +kernel
theorem dX7_floor_48 : decode cX7_floor 48 = .ok (.laload, 1) := by decide +kernel
theorem dX7_floor_49 : decode cX7_floor 49 = .ok (.aload_n 0, 1) := by decide +kernel
theorem dX7_floor_50 : decode cX7_floor 50 = .ok (.getfield 9, 3) := by decide +kernel
theorem dX7_floor_53 : decode cX7_floor 53 = .ok (.iload_n 2, 1) := by decide +kernel
theorem dX7_floor_54 : decode cX7_floor 54 = .ok (.laload, 1) := by decide +kernel
theorem dX7_floor_55 : decode cX7_floor 55 = .ok (.invokestatic 205, 3) := by decide +kernel
theorem dX7_floor_58 : decode cX7_floor 58 = .ok (.ireturn, 1) := by decide +kernel
set_option maxRecDepth 20000 in
theorem ggX7_tight_X7_isSlot : GoodIn wsX7_tight wsX7_isSlot := goodIn_r _ [6] (by decide +kernel) (by decide +kernel)
set_option maxRecDepth 20000 in
theorem gX7_tight_X7_isSlot : GoodIn wsX7_tight (va_wsS RX7 96 yX7_isSlot wsX7_isSlot) := goodIn_app (goodIn_of _ (by decide +kernel)) ggX7_tight_X7_isSlot
set_option maxRecDepth 20000 in
theorem ggX7_tight_J13_bitCount_95d88 : GoodIn wsX7_tight wsJ13_bitCount_95d88 := goodIn_r _ [10, 11, 12, 13] (by decide +kernel) (by decide +kernel)
set_option maxRecDepth 20000 in
theorem gX7_tight_J13_bitCount_95d88 : GoodIn wsX7_tight (va_wsS RX7 145 yJ13_bitCount_95d88 wsJ13_bitCount_95d88) := goodIn_app (goodIn_of _ (by decide +kernel)) ggX7_tight_J13_bitCount_95d88
set_option maxRecDepth 20000 in
theorem ggX7_tight_X7_findSums : GoodIn wsX7_tight wsX7_findSums := goodIn_r _ [17, 18, 2, 19, 20, 21, 22, 23, 24, 25, 26, 27, 28, 29, 30, 31, 32, 33, 5, 34, 35, 36, 37, 38, 39, 40, 41, 42, 43, 44, 53, 54, 55, 56, 57, 58, 59, 60, 61, 62] (by decide +kernel) (by decide +kernel)
set_option maxRecDepth 20000 in
theorem gX7_tight_X7_findSums : GoodIn wsX7_tight (wsV RX7 112 RX7 yX7_findSums wsX7_findSums) := goodIn_app (goodIn_of _ (by decide +kernel)) ggX7_tight_X7_findSums
set_option maxRecDepth 20000 in
theorem ggX7_tight_X6_size : GoodIn wsX7_tight wsX6_size := goodIn_r _ [48, 24, 49, 8, 9, 10, 11, 12, 13, 62] (by decide +kernel) (by decide +kernel)
set_option maxRecDepth 20000 in
theorem gX7_tight_X6_size : GoodIn wsX7_tight (wsV RX7 155 RX6 yX6_size wsX6_size) := goodIn_app (goodIn_of _ (by decide +kernel)) ggX7_tight_X6_size
set_option maxRecDepth 20000 in
theorem ggX7_tight_X7_fewestSums : GoodIn wsX7_tight wsX7_fewestSums := goodIn_r _ [52, 7, 8, 9, 10, 11, 12, 13] (by decide +kernel) (by decide +kernel)
set_option maxRecDepth 20000 in
theorem gX7_tight_X7_fewestSums : GoodIn wsX7_tight (va_wsS RX7 205 yX7_fewestSums wsX7_fewestSums) := goodIn_app (goodIn_of _ (by decide +kernel)) ggX7_tight_X7_fewestSums
theorem dX7_tight_0 : decode cX7_tight 0 = .ok (.iload_n 1, 1) := by decide +kernel
theorem dX7_tight_1 : decode cX7_tight 1 = .ok (.invokestatic 96, 3) := by decide +kernel
theorem dX7_tight_4 : decode cX7_tight 4 = .ok (.ifCond .eq 10, 3) := by decide +kernel
theorem dX7_tight_7 : decode cX7_tight 7 = .ok (.iload_n 2, 1) := by decide +kernel
theorem dX7_tight_8 : decode cX7_tight 8 = .ok (.invokestatic 96, 3) := by decide +kernel
theorem dX7_tight_11 : decode cX7_tight 11 = .ok (.ifCond .ne 5, 3) := by decide +kernel
theorem dX7_tight_14 : decode cX7_tight 14 = .ok (.iconst (-1), 1) := by decide +kernel
theorem dX7_tight_15 : decode cX7_tight 15 = .ok (.ireturn, 1) := by decide +kernel
theorem dX7_tight_16 : decode cX7_tight 16 = .ok (.aload_n 0, 1) := by decide +kernel
theorem dX7_tight_17 : decode cX7_tight 17 = .ok (.getfield 9, 3) := by decide +kernel
theorem dX7_tight_20 : decode cX7_tight 20 = .ok (.iload_n 1, 1) := by decide +kernel
theorem dX7_tight_21 : decode cX7_tight 21 = .ok (.laload, 1) := by decide +kernel
theorem dX7_tight_22 : decode cX7_tight 22 = .ok (.lconst 0, 1) := by decide +kernel
theorem dX7_tight_23 : decode cX7_tight 23 = .ok (.lcmp, 1) := by decide +kernel
theorem dX7_tight_24 : decode cX7_tight 24 = .ok (.ifCond .eq 14, 3) := by decide +kernel
theorem dX7_tight_27 : decode cX7_tight 27 = .ok (.aload_n 0, 1) := by decide +kernel
theorem dX7_tight_28 : decode cX7_tight 28 = .ok (.getfield 9, 3) := by decide +kernel
theorem dX7_tight_31 : decode cX7_tight 31 = .ok (.iload_n 2, 1) := by decide +kernel
theorem dX7_tight_32 : decode cX7_tight 32 = .ok (.laload, 1) := by decide +kernel
theorem dX7_tight_33 : decode cX7_tight 33 = .ok (.lconst 0, 1) := by decide +kernel
theorem dX7_tight_34 : decode cX7_tight 34 = .ok (.lcmp, 1) := by decide +kernel
theorem dX7_tight_35 : decode cX7_tight 35 = .ok (.ifCond .ne 6, 3) := by decide +kernel
theorem dX7_tight_38 : decode cX7_tight 38 = .ok (.bipush (-2), 2) := by decide +kernel
theorem dX7_tight_40 : decode cX7_tight 40 = .ok (.ireturn, 1) := by decide +kernel
theorem dX7_tight_41 : decode cX7_tight 41 = .ok (.aload_n 0, 1) := by decide +kernel
theorem dX7_tight_42 : decode cX7_tight 42 = .ok (.getfield 9, 3) := by decide +kernel
theorem dX7_tight_45 : decode cX7_tight 45 = .ok (.iload_n 1, 1) := by decide +kernel
theorem dX7_tight_46 : decode cX7_tight 46 = .ok (.laload, 1) := by decide +kernel
theorem dX7_tight_47 : decode cX7_tight 47 = .ok (.invokestatic 145, 3) := by decide +kernel
theorem dX7_tight_50 : decode cX7_tight 50 = .ok (.iconst 2, 1) := by decide +kernel
theorem dX7_tight_51 : decode cX7_tight 51 = .ok (.if_icmp .lt 16, 3) := by decide +kernel
theorem dX7_tight_54 : decode cX7_tight 54 = .ok (.aload_n 0, 1) := by decide +kernel
theorem dX7_tight_55 : decode cX7_tight 55 = .ok (.getfield 9, 3) := by decide +kernel
theorem dX7_tight_58 : decode cX7_tight 58 = .ok (.iload_n 2, 1) := by decide +kernel
theorem dX7_tight_59 : decode cX7_tight 59 = .ok (.laload, 1) := by decide +kernel
theorem dX7_tight_60 : decode cX7_tight 60 = .ok (.invokestatic 145, 3) := by decide +kernel
theorem dX7_tight_63 : decode cX7_tight 63 = .ok (.iconst 2, 1) := by decide +kernel
theorem dX7_tight_64 : decode cX7_tight 64 = .ok (.if_icmp .ge 5, 3) := by decide +kernel
theorem dX7_tight_67 : decode cX7_tight 67 = .ok (.iconst 0, 1) := by decide +kernel
theorem dX7_tight_68 : decode cX7_tight 68 = .ok (.ireturn, 1) := by decide +kernel
theorem dX7_tight_69 : decode cX7_tight 69 = .ok (.aload_n 0, 1) := by decide +kernel
theorem dX7_tight_70 : decode cX7_tight 70 = .ok (.aload_n 0, 1) := by decide +kernel
theorem dX7_tight_71 : decode cX7_tight 71 = .ok (.getfield 9, 3) := by decide +kernel
theorem dX7_tight_74 : decode cX7_tight 74 = .ok (.iload_n 1, 1) := by decide +kernel
theorem dX7_tight_75 : decode cX7_tight 75 = .ok (.laload, 1) := by decide +kernel
theorem dX7_tight_76 : decode cX7_tight 76 = .ok (.aload_n 0, 1) := by decide +kernel
theorem dX7_tight_77 : decode cX7_tight 77 = .ok (.getfield 9, 3) := by decide +kernel
theorem dX7_tight_80 : decode cX7_tight 80 = .ok (.iload_n 2, 1) := by decide +kernel
theorem dX7_tight_81 : decode cX7_tight 81 = .ok (.laload, 1) := by decide +kernel
theorem dX7_tight_82 : decode cX7_tight 82 = .ok (.invokevirtual 112, 3) := by decide +kernel
theorem dX7_tight_85 : decode cX7_tight 85 = .ok (.aload_n 0, 1) := by decide +kernel
theorem dX7_tight_86 : decode cX7_tight 86 = .ok (.getfield 30, 3) := by decide +kernel
theorem dX7_tight_89 : decode cX7_tight 89 = .ok (.invokevirtual 155, 3) := by decide +kernel
theorem dX7_tight_92 : decode cX7_tight 92 = .ok (.aload_n 0, 1) := by decide +kernel
theorem dX7_tight_93 : decode cX7_tight 93 = .ok (.getfield 9, 3) := by decide +kernel
theorem dX7_tight_96 : decode cX7_tight 96 = .ok (.iload_n 1, 1) := by decide +kernel
theorem dX7_tight_97 : decode cX7_tight 97 = .ok (.laload, 1) := by decide +kernel
theorem dX7_tight_98 : decode cX7_tight 98 = .ok (.aload_n 0, 1) := by decide +kernel
theorem dX7_tight_99 : decode cX7_tight 99 = .ok (.getfield 9, 3) := by decide +kernel
theorem dX7_tight_102 : decode cX7_tight 102 = .ok (.iload_n 2, 1) := by decide +kernel
theorem dX7_tight_103 : decode cX7_tight 103 = .ok (.laload, 1) := by decide +kernel
theorem dX7_tight_104 : decode cX7_tight 104 = .ok (.invokestatic 205, 3) := by decide +kernel
theorem dX7_tight_107 : decode cX7_tight 107 = .ok (.if_icmp .ne 7, 3) := by decide +kernel
theorem dX7_tight_110 : decode cX7_tight 110 = .ok (.iconst 1, 1) := by decide +kernel
theorem dX7_tight_111 : decode cX7_tight 111 = .ok (.goto 4, 3) := by decide +kernel
theorem dX7_tight_114 : decode cX7_tight 114 = .ok (.iconst 0, 1) := by decide +kernel
theorem dX7_tight_115 : decode cX7_tight 115 = .ok (.ireturn, 1) := by decide +kernel
set_option maxRecDepth 20000 in
theorem ggX7_room_X7_isSlot : GoodIn wsX7_room wsX7_isSlot := goodIn_r _ [6] (by decide +kernel) (by decide +kernel)
set_option maxRecDepth 20000 in
theorem gX7_room_X7_isSlot : GoodIn wsX7_room (va_wsS RX7 96 yX7_isSlot wsX7_isSlot) := goodIn_app (goodIn_of _ (by decide +kernel)) ggX7_room_X7_isSlot
set_option maxRecDepth 20000 in
theorem ggX7_room_J13_bitCount_95d88 : GoodIn wsX7_room wsJ13_bitCount_95d88 := goodIn_r _ [10, 11, 12, 13] (by decide +kernel) (by decide +kernel)
set_option maxRecDepth 20000 in
theorem gX7_room_J13_bitCount_95d88 : GoodIn wsX7_room (va_wsS RX7 145 yJ13_bitCount_95d88 wsJ13_bitCount_95d88) := goodIn_app (goodIn_of _ (by decide +kernel)) ggX7_room_J13_bitCount_95d88
set_option maxRecDepth 20000 in
theorem ggX7_room_X7_findSums : GoodIn wsX7_room wsX7_findSums := goodIn_r _ [17, 18, 2, 19, 20, 21, 22, 23, 24, 25, 26, 27, 28, 29, 30, 31, 32, 33, 5, 34, 35, 36, 37, 38, 39, 40, 41, 42, 43, 44, 80, 81, 82, 83, 84, 85, 86, 87, 88, 89] (by decide +kernel) (by decide +kernel)
set_option maxRecDepth 20000 in
theorem gX7_room_X7_findSums : GoodIn wsX7_room (wsV RX7 112 RX7 yX7_findSums wsX7_findSums) := goodIn_app (goodIn_of _ (by decide +kernel)) ggX7_room_X7_findSums
set_option maxRecDepth 20000 in
theorem ggX7_room_X6_size : GoodIn wsX7_room wsX6_size := goodIn_r _ [48, 24, 49, 8, 9, 10, 11, 12, 13, 89] (by decide +kernel) (by decide +kernel)
set_option maxRecDepth 20000 in
theorem gX7_room_X6_size : GoodIn wsX7_room (wsV RX7 155 RX6 yX6_size wsX6_size) := goodIn_app (goodIn_of _ (by decide +kernel)) ggX7_room_X6_size
set_option maxRecDepth 20000 in
theorem ggX7_room_X7_coverLength : GoodIn wsX7_room wsX7_coverLength := goodIn_r _ [52, 53, 54, 5, 55, 56, 57, 58, 59, 60, 9, 61, 62, 63, 64, 65, 66, 67, 33, 34, 35, 36, 37, 68, 69, 70, 71, 72, 73, 74, 75, 76, 77, 78, 79] (by decide +kernel) (by decide +kernel)
set_option maxRecDepth 20000 in
theorem gX7_room_X7_coverLength : GoodIn wsX7_room (va_wsS RX7 186 yX7_coverLength wsX7_coverLength) := goodIn_app (goodIn_of _ (by decide +kernel)) ggX7_room_X7_coverLength
theorem dX7_room_0 : decode cX7_room 0 = .ok (.iload_n 1, 1) := by decide +kernel
theorem dX7_room_1 : decode cX7_room 1 = .ok (.invokestatic 96, 3) := by decide +kernel
theorem dX7_room_4 : decode cX7_room 4 = .ok (.ifCond .ne 5, 3) := by decide +kernel
theorem dX7_room_7 : decode cX7_room 7 = .ok (.iconst (-1), 1) := by decide +kernel
theorem dX7_room_8 : decode cX7_room 8 = .ok (.ireturn, 1) := by decide +kernel
theorem dX7_room_9 : decode cX7_room 9 = .ok (.aload_n 0, 1) := by decide +kernel
theorem dX7_room_10 : decode cX7_room 10 = .ok (.getfield 9, 3) := by decide +kernel
theorem dX7_room_13 : decode cX7_room 13 = .ok (.iload_n 1, 1) := by decide +kernel
theorem dX7_room_14 : decode cX7_room 14 = .ok (.laload, 1) := by decide +kernel
theorem dX7_room_15 : decode cX7_room 15 = .ok (.invokestatic 145, 3) := by decide +kernel
theorem dX7_room_18 : decode cX7_room 18 = .ok (.istore_n 2, 1) := by decide +kernel
theorem dX7_room_19 : decode cX7_room 19 = .ok (.aload_n 0, 1) := by decide +kernel
theorem dX7_room_20 : decode cX7_room 20 = .ok (.aload_n 0, 1) := by decide +kernel
theorem dX7_room_21 : decode cX7_room 21 = .ok (.getfield 9, 3) := by decide +kernel
theorem dX7_room_24 : decode cX7_room 24 = .ok (.iload_n 1, 1) := by decide +kernel
theorem dX7_room_25 : decode cX7_room 25 = .ok (.laload, 1) := by decide +kernel
theorem dX7_room_26 : decode cX7_room 26 = .ok (.aload_n 0, 1) := by decide +kernel
theorem dX7_room_27 : decode cX7_room 27 = .ok (.getfield 9, 3) := by decide +kernel
theorem dX7_room_30 : decode cX7_room 30 = .ok (.iload_n 1, 1) := by decide +kernel
theorem dX7_room_31 : decode cX7_room 31 = .ok (.laload, 1) := by decide +kernel
theorem dX7_room_32 : decode cX7_room 32 = .ok (.invokevirtual 112, 3) := by decide +kernel
theorem dX7_room_35 : decode cX7_room 35 = .ok (.iload_n 2, 1) := by decide +kernel
theorem dX7_room_36 : decode cX7_room 36 = .ok (.iconst 3, 1) := by decide +kernel
theorem dX7_room_37 : decode cX7_room 37 = .ok (.if_icmp .lt 18, 3) := by decide +kernel
theorem dX7_room_40 : decode cX7_room 40 = .ok (.aload_n 0, 1) := by decide +kernel
theorem dX7_room_41 : decode cX7_room 41 = .ok (.getfield 30, 3) := by decide +kernel
theorem dX7_room_44 : decode cX7_room 44 = .ok (.invokevirtual 155, 3) := by decide +kernel
theorem dX7_room_47 : decode cX7_room 47 = .ok (.iconst 3, 1) := by decide +kernel
theorem dX7_room_48 : decode cX7_room 48 = .ok (.iload_n 2, 1) := by decide +kernel
theorem dX7_room_49 : decode cX7_room 49 = .ok (.imul, 1) := by decide +kernel
theorem dX7_room_50 : decode cX7_room 50 = .ok (.iconst 4, 1) := by decide +kernel
theorem dX7_room_51 : decode cX7_room 51 = .ok (.isub, 1) := by decide +kernel
theorem dX7_room_52 : decode cX7_room 52 = .ok (.if_icmp .le 6, 3) := by decide +kernel
theorem dX7_room_55 : decode cX7_room 55 = .ok (.bipush (-4), 2) := by decide +kernel
theorem dX7_room_57 : decode cX7_room 57 = .ok (.ireturn, 1) := by decide +kernel
theorem dX7_room_58 : decode cX7_room 58 = .ok (.aload_n 0, 1) := by decide +kernel
theorem dX7_room_59 : decode cX7_room 59 = .ok (.getfield 30, 3) := by decide +kernel
theorem dX7_room_62 : decode cX7_room 62 = .ok (.invokevirtual 155, 3) := by decide +kernel
theorem dX7_room_65 : decode cX7_room 65 = .ok (.iload_n 2, 1) := by decide +kernel
theorem dX7_room_66 : decode cX7_room 66 = .ok (.isub, 1) := by decide +kernel
theorem dX7_room_67 : decode cX7_room 67 = .ok (.iconst 1, 1) := by decide +kernel
theorem dX7_room_68 : decode cX7_room 68 = .ok (.iadd, 1) := by decide +kernel
theorem dX7_room_69 : decode cX7_room 69 = .ok (.aload_n 0, 1) := by decide +kernel
theorem dX7_room_70 : decode cX7_room 70 = .ok (.getfield 9, 3) := by decide +kernel
theorem dX7_room_73 : decode cX7_room 73 = .ok (.iload_n 1, 1) := by decide +kernel
theorem dX7_room_74 : decode cX7_room 74 = .ok (.laload, 1) := by decide +kernel
theorem dX7_room_75 : decode cX7_room 75 = .ok (.invokestatic 186, 3) := by decide +kernel
theorem dX7_room_78 : decode cX7_room 78 = .ok (.isub, 1) := by decide +kernel
theorem dX7_room_79 : decode cX7_room 79 = .ok (.ireturn, 1) := by decide +kernel
set_option maxRecDepth 20000 in
theorem ggX7_smallest_X4_isTold : GoodIn wsX7_smallest wsX4_isTold := goodIn_r _ [5] (by decide +kernel) (by decide +kernel)
set_option maxRecDepth 20000 in
theorem gX7_smallest_X4_isTold : GoodIn wsX7_smallest (va_wsS RX7 209 yX4_isTold wsX4_isTold) := goodIn_app (goodIn_of _ (by decide +kernel)) ggX7_smallest_X4_isTold
set_option maxRecDepth 20000 in
theorem ggX7_smallest_X4_seek : GoodIn wsX7_smallest wsX4_seek := goodIn_r _ [9, 10, 11, 12, 13, 14, 15, 4, 16, 17, 18, 19, 20, 21, 22, 23, 24, 25, 26, 27, 28, 29, 30, 31, 32, 33, 34, 35, 36, 58, 59, 60, 61] (by decide +kernel) (by decide +kernel)
set_option maxRecDepth 20000 in
theorem gX7_smallest_X4_seek : GoodIn wsX7_smallest (wsV RX7 212 RX4 yX4_seek wsX4_seek) := goodIn_app (goodIn_of _ (by decide +kernel)) ggX7_smallest_X4_seek
set_option maxRecDepth 20000 in
theorem ggX7_smallest_X4_fewest : GoodIn wsX7_smallest wsX4_fewest := goodIn_r _ [40, 36, 58, 59, 60, 61] (by decide +kernel) (by decide +kernel)
set_option maxRecDepth 20000 in
theorem gX7_smallest_X4_fewest : GoodIn wsX7_smallest (wsV RX7 215 RX4 yX4_fewest wsX4_fewest) := goodIn_app (goodIn_of _ (by decide +kernel)) ggX7_smallest_X4_fewest
set_option maxRecDepth 20000 in
theorem ggX7_smallest_X4_size : GoodIn wsX7_smallest wsX4_size := goodIn_r _ [44, 12, 58, 59, 60, 61] (by decide +kernel) (by decide +kernel)
set_option maxRecDepth 20000 in
theorem gX7_smallest_X4_size : GoodIn wsX7_smallest (wsV RX7 218 RX4 yX4_size wsX4_size) := goodIn_app (goodIn_of _ (by decide +kernel)) ggX7_smallest_X4_size
set_option maxRecDepth 20000 in
theorem ggX7_smallest_X4_setAt : GoodIn wsX7_smallest wsX4_setAt := goodIn_r _ [48, 12, 10, 36, 13, 14, 15, 4, 16, 11, 17, 18, 19, 20, 21, 22, 23, 24, 25, 26, 27, 28, 29, 30, 31, 58, 59, 60, 61] (by decide +kernel) (by decide +kernel)
set_option maxRecDepth 20000 in
theorem gX7_smallest_X4_setAt : GoodIn wsX7_smallest (wsV RX7 219 RX4 yX4_setAt wsX4_setAt) := goodIn_app (goodIn_of _ (by decide +kernel)) ggX7_smallest_X4_setAt
theorem dX7_smallest_0 : decode cX7_smallest 0 = .ok (.iload_n 1, 1) := by decide +kernel
theorem dX7_smallest_1 : decode cX7_smallest 1 = .ok (.iload_n 2, 1) := by decide +kernel
theorem dX7_smallest_2 : decode cX7_smallest 2 = .ok (.invokestatic 209, 3) := by decide +kernel
theorem dX7_smallest_5 : decode cX7_smallest 5 = .ok (.ifCond .eq 9, 3) := by decide +kernel
theorem dX7_smallest_8 : decode cX7_smallest 8 = .ok (.iload_n 3, 1) := by decide +kernel
theorem dX7_smallest_9 : decode cX7_smallest 9 = .ok (.bipush (-2), 2) := by decide +kernel
theorem dX7_smallest_11 : decode cX7_smallest 11 = .ok (.if_icmp .ge 5, 3) := by decide +kernel
theorem dX7_smallest_14 : decode cX7_smallest 14 = .ok (.iconst (-1), 1) := by decide +kernel
theorem dX7_smallest_15 : decode cX7_smallest 15 = .ok (.ireturn, 1) := by decide +kernel
theorem dX7_smallest_16 : decode cX7_smallest 16 = .ok (.aload_n 0, 1) := by decide +kernel
theorem dX7_smallest_17 : decode cX7_smallest 17 = .ok (.getfield 61, 3) := by decide +kernel
theorem dX7_smallest_20 : decode cX7_smallest 20 = .ok (.iload_n 1, 1) := by decide +kernel
theorem dX7_smallest_21 : decode cX7_smallest 21 = .ok (.iload_n 2, 1) := by decide +kernel
theorem dX7_smallest_22 : decode cX7_smallest 22 = .ok (.invokevirtual 212, 3) := by decide +kernel
theorem dX7_smallest_25 : decode cX7_smallest 25 = .ok (.iload_n 3, 1) := by decide +kernel
theorem dX7_smallest_26 : decode cX7_smallest 26 = .ok (.lookupswitch 42 #[(-2, 34), (-1, 26)], 26) := by decide +kernel
theorem dX7_smallest_52 : decode cX7_smallest 52 = .ok (.aload_n 0, 1) := by decide +kernel
theorem dX7_smallest_53 : decode cX7_smallest 53 = .ok (.getfield 61, 3) := by decide +kernel
theorem dX7_smallest_56 : decode cX7_smallest 56 = .ok (.invokevirtual 215, 3) := by decide +kernel
theorem dX7_smallest_59 : decode cX7_smallest 59 = .ok (.ireturn, 1) := by decide +kernel
theorem dX7_smallest_60 : decode cX7_smallest 60 = .ok (.aload_n 0, 1) := by decide +kernel
theorem dX7_smallest_61 : decode cX7_smallest 61 = .ok (.getfield 61, 3) := by decide +kernel
theorem dX7_smallest_64 : decode cX7_smallest 64 = .ok (.invokevirtual 218, 3) := by decide +kernel
theorem dX7_smallest_67 : decode cX7_smallest 67 = .ok (.ireturn, 1) := by decide +kernel
theorem dX7_smallest_68 : decode cX7_smallest 68 = .ok (.aload_n 0, 1) := by decide +kernel
theorem dX7_smallest_69 : decode cX7_smallest 69 = .ok (.getfield 61, 3) := by decide +kernel
theorem dX7_smallest_72 : decode cX7_smallest 72 = .ok (.iload_n 3, 1) := by decide +kernel
theorem dX7_smallest_73 : decode cX7_smallest 73 = .ok (.invokevirtual 219, 3) := by decide +kernel
theorem dX7_smallest_76 : decode cX7_smallest 76 = .ok (.ireturn, 1) := by decide +kernel
set_option maxRecDepth 20000 in
theorem ggX7_count_X7_isSlot : GoodIn wsX7_count wsX7_isSlot := goodIn_r _ [7] (by decide +kernel) (by decide +kernel)
set_option maxRecDepth 20000 in
theorem gX7_count_X7_isSlot : GoodIn wsX7_count (va_wsS RX7 96 yX7_isSlot wsX7_isSlot) := goodIn_app (goodIn_of _ (by decide +kernel)) ggX7_count_X7_isSlot
set_option maxRecDepth 20000 in
theorem ggX7_count_J13_bitCount_95d88 : GoodIn wsX7_count wsJ13_bitCount_95d88 := goodIn_r _ [11, 12, 13, 14] (by decide +kernel) (by decide +kernel)
set_option maxRecDepth 20000 in
theorem gX7_count_J13_bitCount_95d88 : GoodIn wsX7_count (va_wsS RX7 145 yJ13_bitCount_95d88 wsJ13_bitCount_95d88) := goodIn_app (goodIn_of _ (by decide +kernel)) ggX7_count_J13_bitCount_95d88
set_option maxRecDepth 20000 in
theorem ggX7_count_X1_size : GoodIn wsX7_count wsX1_size := goodIn_r _ [19, 20, 40, 41, 42] (by decide +kernel) (by decide +kernel)
set_option maxRecDepth 20000 in
theorem gX7_count_X1_size : GoodIn wsX7_count (wsV RX7 142 RX1 yX1_size wsX1_size) := goodIn_app (goodIn_of _ (by decide +kernel)) ggX7_count_X1_size
set_option maxRecDepth 20000 in
theorem ggX7_count_X3_length : GoodIn wsX7_count wsX3_length := goodIn_r _ [25, 26, 43, 44, 45, 46] (by decide +kernel) (by decide +kernel)
set_option maxRecDepth 20000 in
theorem gX7_count_X3_length : GoodIn wsX7_count (wsV RX7 78 RX3 yX3_length wsX3_length) := goodIn_app (goodIn_of _ (by decide +kernel)) ggX7_count_X3_length
set_option maxRecDepth 20000 in
theorem ggX7_count_X7_slotsInUse : GoodIn wsX7_count wsX7_slotsInUse := goodIn_r _ [30, 1, 31, 32, 33, 34, 35, 36, 37, 38, 39] (by decide +kernel) (by decide +kernel)
set_option maxRecDepth 20000 in
theorem gX7_count_X7_slotsInUse : GoodIn wsX7_count (wsV RX7 93 RX7 yX7_slotsInUse wsX7_slotsInUse) := goodIn_app (goodIn_of _ (by decide +kernel)) ggX7_count_X7_slotsInUse
theorem dX7_count_0 : decode cX7_count 0 = .ok (.iload_n 1, 1) := by decide +kernel
theorem dX7_count_1 : decode cX7_count 1 = .ok (.invokestatic 96, 3) := by decide +kernel
theorem dX7_count_4 : decode cX7_count 4 = .ok (.ifCond .eq 13, 3) := by decide +kernel
theorem dX7_count_7 : decode cX7_count 7 = .ok (.aload_n 0, 1) := by decide +kernel
theorem dX7_count_8 : decode cX7_count 8 = .ok (.getfield 9, 3) := by decide +kernel
theorem dX7_count_11 : decode cX7_count 11 = .ok (.iload_n 1, 1) := by decide +kernel
theorem dX7_count_12 : decode cX7_count 12 = .ok (.laload, 1) := by decide +kernel
theorem dX7_count_13 : decode cX7_count 13 = .ok (.invokestatic 145, 3) := by decide +kernel
theorem dX7_count_16 : decode cX7_count 16 = .ok (.ireturn, 1) := by decide +kernel
theorem dX7_count_17 : decode cX7_count 17 = .ok (.iload_n 1, 1) := by decide +kernel
theorem dX7_count_18 : decode cX7_count 18 = .ok (.tableswitch 47 4 6 #[26, 34, 42], 26) := by decide +kernel
theorem dX7_count_44 : decode cX7_count 44 = .ok (.aload_n 0, 1) := by decide +kernel
theorem dX7_count_45 : decode cX7_count 45 = .ok (.getfield 23, 3) := by decide +kernel
theorem dX7_count_48 : decode cX7_count 48 = .ok (.invokevirtual 142, 3) := by decide +kernel
theorem dX7_count_51 : decode cX7_count 51 = .ok (.ireturn, 1) := by decide +kernel
theorem dX7_count_52 : decode cX7_count 52 = .ok (.aload_n 0, 1) := by decide +kernel
theorem dX7_count_53 : decode cX7_count 53 = .ok (.getfield 16, 3) := by decide +kernel
theorem dX7_count_56 : decode cX7_count 56 = .ok (.invokevirtual 78, 3) := by decide +kernel
theorem dX7_count_59 : decode cX7_count 59 = .ok (.ireturn, 1) := by decide +kernel
theorem dX7_count_60 : decode cX7_count 60 = .ok (.aload_n 0, 1) := by decide +kernel
theorem dX7_count_61 : decode cX7_count 61 = .ok (.invokevirtual 93, 3) := by decide +kernel
theorem dX7_count_64 : decode cX7_count 64 = .ok (.ireturn, 1) := by decide +kernel
theorem dX7_count_65 : decode cX7_count 65 = .ok (.iconst (-1), 1) := by decide +kernel
theorem dX7_count_66 : decode cX7_count 66 = .ok (.ireturn, 1) := by decide +kernel
set_option maxRecDepth 20000 in
theorem ggX7_change_X1_keep : GoodIn wsX7_change wsX1_keep := goodIn_r _ [7, 8, 9, 10, 11, 12, 13, 14, 31, 32, 33] (by decide +kernel) (by decide +kernel)
set_option maxRecDepth 20000 in
theorem gX7_change_X1_keep : GoodIn wsX7_change (wsV RX7 222 RX1 yX1_keep wsX1_keep) := goodIn_app (goodIn_of _ (by decide +kernel)) ggX7_change_X1_keep
set_option maxRecDepth 20000 in
theorem ggX7_change_J13_bitCount_95d88 : GoodIn wsX7_change wsJ13_bitCount_95d88 := goodIn_r _ [18, 19, 20, 21] (by decide +kernel) (by decide +kernel)
set_option maxRecDepth 20000 in
theorem gX7_change_J13_bitCount_95d88 : GoodIn wsX7_change (va_wsS RX7 145 yJ13_bitCount_95d88 wsJ13_bitCount_95d88) := goodIn_app (goodIn_of _ (by decide +kernel)) ggX7_change_J13_bitCount_95d88
theorem dX7_change_0 : decode cX7_change 0 = .ok (.aload_n 0, 1) := by decide +kernel
theorem dX7_change_1 : decode cX7_change 1 = .ok (.getfield 23, 3) := by decide +kernel
theorem dX7_change_4 : decode cX7_change 4 = .ok (.iload_n 1, 1) := by decide +kernel
theorem dX7_change_5 : decode cX7_change 5 = .ok (.aload_n 0, 1) := by decide +kernel
theorem dX7_change_6 : decode cX7_change 6 = .ok (.getfield 9, 3) := by decide +kernel
theorem dX7_change_9 : decode cX7_change 9 = .ok (.iload_n 1, 1) := by decide +kernel
theorem dX7_change_10 : decode cX7_change 10 = .ok (.laload, 1) := by decide +kernel
theorem dX7_change_11 : decode cX7_change 11 = .ok (.invokevirtual 222, 3) := by decide +kernel
theorem dX7_change_14 : decode cX7_change 14 = .ok (.aload_n 0, 1) := by decide +kernel
theorem dX7_change_15 : decode cX7_change 15 = .ok (.getfield 9, 3) := by decide +kernel
theorem dX7_change_18 : decode cX7_change 18 = .ok (.iload_n 1, 1) := by decide +kernel
theorem dX7_change_19 : decode cX7_change 19 = .ok (.lload_n 2, 1) := by decide +kernel
theorem dX7_change_20 : decode cX7_change 20 = .ok (.lastore, 1) := by decide +kernel
theorem dX7_change_21 : decode cX7_change 21 = .ok (.lload_n 2, 1) := by decide +kernel
theorem dX7_change_22 : decode cX7_change 22 = .ok (.invokestatic 145, 3) := by decide +kernel
theorem dX7_change_25 : decode cX7_change 25 = .ok (.ireturn, 1) := by decide +kernel
theorem dX7_slotsInUse_0 : decode cX7_slotsInUse 0 = .ok (.iconst 0, 1) := by decide +kernel
theorem dX7_slotsInUse_1 : decode cX7_slotsInUse 1 = .ok (.istore_n 1, 1) := by decide +kernel
theorem dX7_slotsInUse_2 : decode cX7_slotsInUse 2 = .ok (.iconst 0, 1) := by decide +kernel
theorem dX7_slotsInUse_3 : decode cX7_slotsInUse 3 = .ok (.istore_n 2, 1) := by decide +kernel
theorem dX7_slotsInUse_4 : decode cX7_slotsInUse 4 = .ok (.iload_n 2, 1) := by decide +kernel
theorem dX7_slotsInUse_5 : decode cX7_slotsInUse 5 = .ok (.iconst 4, 1) := by decide +kernel
theorem dX7_slotsInUse_6 : decode cX7_slotsInUse 6 = .ok (.if_icmp .ge 23, 3) := by decide +kernel
theorem dX7_slotsInUse_9 : decode cX7_slotsInUse 9 = .ok (.aload_n 0, 1) := by decide +kernel
theorem dX7_slotsInUse_10 : decode cX7_slotsInUse 10 = .ok (.getfield 9, 3) := by decide +kernel
theorem dX7_slotsInUse_13 : decode cX7_slotsInUse 13 = .ok (.iload_n 2, 1) := by decide +kernel
theorem dX7_slotsInUse_14 : decode cX7_slotsInUse 14 = .ok (.laload, 1) := by decide +kernel
theorem dX7_slotsInUse_15 : decode cX7_slotsInUse 15 = .ok (.lconst 0, 1) := by decide +kernel
theorem dX7_slotsInUse_16 : decode cX7_slotsInUse 16 = .ok (.lcmp, 1) := by decide +kernel
theorem dX7_slotsInUse_17 : decode cX7_slotsInUse 17 = .ok (.ifCond .eq 6, 3) := by decide +kernel
theorem dX7_slotsInUse_20 : decode cX7_slotsInUse 20 = .ok (.iinc 1 1, 3) := by decide +kernel
theorem dX7_slotsInUse_23 : decode cX7_slotsInUse 23 = .ok (.iinc 2 1, 3) := by decide +kernel
theorem dX7_slotsInUse_26 : decode cX7_slotsInUse 26 = .ok (.goto (-22), 3) := by decide +kernel
theorem dX7_slotsInUse_29 : decode cX7_slotsInUse 29 = .ok (.iload_n 1, 1) := by decide +kernel
theorem dX7_slotsInUse_30 : decode cX7_slotsInUse 30 = .ok (.ireturn, 1) := by decide +kernel
set_option maxRecDepth 20000 in
theorem ggX7_canSwell_J13_bitCount_95d88 : GoodIn wsX7_canSwell wsJ13_bitCount_95d88 := goodIn_r _ [5, 6, 7, 8] (by decide +kernel) (by decide +kernel)
set_option maxRecDepth 20000 in
theorem gX7_canSwell_J13_bitCount_95d88 : GoodIn wsX7_canSwell (va_wsS RX7 145 yJ13_bitCount_95d88 wsJ13_bitCount_95d88) := goodIn_app (goodIn_of _ (by decide +kernel)) ggX7_canSwell_J13_bitCount_95d88
theorem dX7_canSwell_0 : decode cX7_canSwell 0 = .ok (.aload_n 0, 1) := by decide +kernel
theorem dX7_canSwell_1 : decode cX7_canSwell 1 = .ok (.getfield 9, 3) := by decide +kernel
theorem dX7_canSwell_4 : decode cX7_canSwell 4 = .ok (.iload_n 1, 1) := by decide +kernel
theorem dX7_canSwell_5 : decode cX7_canSwell 5 = .ok (.laload, 1) := by decide +kernel
theorem dX7_canSwell_6 : decode cX7_canSwell 6 = .ok (.lconst 0, 1) := by decide +kernel
theorem dX7_canSwell_7 : decode cX7_canSwell 7 = .ok (.lcmp, 1) := by decide +kernel
theorem dX7_canSwell_8 : decode cX7_canSwell 8 = .ok (.ifCond .eq 32, 3) := by decide +kernel
theorem dX7_canSwell_11 : decode cX7_canSwell 11 = .ok (.aload_n 0, 1) := by decide +kernel
theorem dX7_canSwell_12 : decode cX7_canSwell 12 = .ok (.getfield 9, 3) := by decide +kernel
theorem dX7_canSwell_15 : decode cX7_canSwell 15 = .ok (.iload_n 2, 1) := by decide +kernel
theorem dX7_canSwell_16 : decode cX7_canSwell 16 = .ok (.laload, 1) := by decide +kernel
theorem dX7_canSwell_17 : decode cX7_canSwell 17 = .ok (.lconst 0, 1) := by decide +kernel
theorem dX7_canSwell_18 : decode cX7_canSwell 18 = .ok (.lcmp, 1) := by decide +kernel
theorem dX7_canSwell_19 : decode cX7_canSwell 19 = .ok (.ifCond .eq 21, 3) := by decide +kernel
theorem dX7_canSwell_22 : decode cX7_canSwell 22 = .ok (.aload_n 0, 1) := by decide +kernel
theorem dX7_canSwell_23 : decode cX7_canSwell 23 = .ok (.getfield 9, 3) := by decide +kernel
theorem dX7_canSwell_26 : decode cX7_canSwell 26 = .ok (.iload_n 1, 1) := by decide +kernel
theorem dX7_canSwell_27 : decode cX7_canSwell 27 = .ok (.laload, 1) := by decide +kernel
theorem dX7_canSwell_28 : decode cX7_canSwell 28 = .ok (.invokestatic 145, 3) := by decide +kernel
theorem dX7_canSwell_31 : decode cX7_canSwell 31 = .ok (.bipush 12, 2) := by decide +kernel
theorem dX7_canSwell_33 : decode cX7_canSwell 33 = .ok (.if_icmp .gt 7, 3) := by decide +kernel
theorem dX7_canSwell_36 : decode cX7_canSwell 36 = .ok (.iconst 1, 1) := by decide +kernel
theorem dX7_canSwell_37 : decode cX7_canSwell 37 = .ok (.goto 4, 3) := by decide +kernel
theorem dX7_canSwell_40 : decode cX7_canSwell 40 = .ok (.iconst 0, 1) := by decide +kernel
theorem dX7_canSwell_41 : decode cX7_canSwell 41 = .ok (.ireturn, 1) := by decide +kernel
set_option maxRecDepth 20000 in
theorem ggX7_canPair_J13_bitCount_95d88 : GoodIn wsX7_canPair wsJ13_bitCount_95d88 := goodIn_r _ [5, 6, 7, 8] (by decide +kernel) (by decide +kernel)
set_option maxRecDepth 20000 in
theorem gX7_canPair_J13_bitCount_95d88 : GoodIn wsX7_canPair (va_wsS RX7 145 yJ13_bitCount_95d88 wsJ13_bitCount_95d88) := goodIn_app (goodIn_of _ (by decide +kernel)) ggX7_canPair_J13_bitCount_95d88
theorem dX7_canPair_0 : decode cX7_canPair 0 = .ok (.aload_n 0, 1) := by decide +kernel
theorem dX7_canPair_1 : decode cX7_canPair 1 = .ok (.getfield 9, 3) := by decide +kernel
theorem dX7_canPair_4 : decode cX7_canPair 4 = .ok (.iload_n 1, 1) := by decide +kernel
theorem dX7_canPair_5 : decode cX7_canPair 5 = .ok (.laload, 1) := by decide +kernel
theorem dX7_canPair_6 : decode cX7_canPair 6 = .ok (.invokestatic 145, 3) := by decide +kernel
theorem dX7_canPair_9 : decode cX7_canPair 9 = .ok (.istore_n 3, 1) := by decide +kernel
theorem dX7_canPair_10 : decode cX7_canPair 10 = .ok (.iload_n 3, 1) := by decide +kernel
theorem dX7_canPair_11 : decode cX7_canPair 11 = .ok (.aload_n 0, 1) := by decide +kernel
theorem dX7_canPair_12 : decode cX7_canPair 12 = .ok (.getfield 9, 3) := by decide +kernel
theorem dX7_canPair_15 : decode cX7_canPair 15 = .ok (.iload_n 2, 1) := by decide +kernel
theorem dX7_canPair_16 : decode cX7_canPair 16 = .ok (.laload, 1) := by decide +kernel
theorem dX7_canPair_17 : decode cX7_canPair 17 = .ok (.invokestatic 145, 3) := by decide +kernel
theorem dX7_canPair_20 : decode cX7_canPair 20 = .ok (.if_icmp .ne 17, 3) := by decide +kernel
theorem dX7_canPair_23 : decode cX7_canPair 23 = .ok (.iload_n 3, 1) := by decide +kernel
theorem dX7_canPair_24 : decode cX7_canPair 24 = .ok (.ifCond .le 13, 3) := by decide +kernel
theorem dX7_canPair_27 : decode cX7_canPair 27 = .ok (.iload_n 3, 1) := by decide +kernel
theorem dX7_canPair_28 : decode cX7_canPair 28 = .ok (.bipush 7, 2) := by decide +kernel
theorem dX7_canPair_30 : decode cX7_canPair 30 = .ok (.if_icmp .gt 7, 3) := by decide +kernel
theorem dX7_canPair_33 : decode cX7_canPair 33 = .ok (.iconst 1, 1) := by decide +kernel
theorem dX7_canPair_34 : decode cX7_canPair 34 = .ok (.goto 4, 3) := by decide +kernel
theorem dX7_canPair_37 : decode cX7_canPair 37 = .ok (.iconst 0, 1) := by decide +kernel
theorem dX7_canPair_38 : decode cX7_canPair 38 = .ok (.ireturn, 1) := by decide +kernel
set_option maxRecDepth 20000 in
theorem ggX7_findSums_X6_become : GoodIn wsX7_findSums wsX6_become := goodIn_r _ [7, 8, 9, 10, 11, 12, 39] (by decide +kernel) (by decide +kernel)
set_option maxRecDepth 20000 in
theorem gX7_findSums_X6_become : GoodIn wsX7_findSums (wsV RX7 164 RX6 yX6_become wsX6_become) := goodIn_app (goodIn_of _ (by decide +kernel)) ggX7_findSums_X6_become
set_option maxRecDepth 20000 in
theorem ggX7_findSums_X6_becomeSumsOf : GoodIn wsX7_findSums wsX6_becomeSumsOf := goodIn_r _ [16, 8, 9, 10, 11, 12, 17, 18, 19, 20, 21, 22, 23, 24, 25, 6, 26, 27, 28, 29, 39] (by decide +kernel) (by decide +kernel)
set_option maxRecDepth 20000 in
theorem gX7_findSums_X6_becomeSumsOf : GoodIn wsX7_findSums (wsV RX7 172 RX6 yX6_becomeSumsOf wsX6_becomeSumsOf) := goodIn_app (goodIn_of _ (by decide +kernel)) ggX7_findSums_X6_becomeSumsOf
theorem dX7_findSums_0 : decode cX7_findSums 0 = .ok (.aload_n 0, 1) := by decide +kernel
theorem dX7_findSums_1 : decode cX7_findSums 1 = .ok (.getfield 34, 3) := by decide +kernel
theorem dX7_findSums_4 : decode cX7_findSums 4 = .ok (.lload_n 3, 1) := by decide +kernel
theorem dX7_findSums_5 : decode cX7_findSums 5 = .ok (.invokevirtual 164, 3) := by decide +kernel
theorem dX7_findSums_8 : decode cX7_findSums 8 = .ok (.aload_n 0, 1) := by decide +kernel
theorem dX7_findSums_9 : decode cX7_findSums 9 = .ok (.getfield 30, 3) := by decide +kernel
theorem dX7_findSums_12 : decode cX7_findSums 12 = .ok (.lload_n 1, 1) := by decide +kernel
theorem dX7_findSums_13 : decode cX7_findSums 13 = .ok (.aload_n 0, 1) := by decide +kernel
theorem dX7_findSums_14 : decode cX7_findSums 14 = .ok (.getfield 34, 3) := by decide +kernel
theorem dX7_findSums_17 : decode cX7_findSums 17 = .ok (.invokevirtual 172, 3) := by decide +kernel
theorem dX7_findSums_20 : decode cX7_findSums 20 = .ok (.return_, 1) := by decide +kernel
theorem dX7_isSlot_0 : decode cX7_isSlot 0 = .ok (.iload_n 0, 1) := by decide +kernel
theorem dX7_isSlot_1 : decode cX7_isSlot 1 = .ok (.ifCond .lt 12, 3) := by decide +kernel
theorem dX7_isSlot_4 : decode cX7_isSlot 4 = .ok (.iload_n 0, 1) := by decide +kernel
theorem dX7_isSlot_5 : decode cX7_isSlot 5 = .ok (.iconst 4, 1) := by decide +kernel
theorem dX7_isSlot_6 : decode cX7_isSlot 6 = .ok (.if_icmp .ge 7, 3) := by decide +kernel
theorem dX7_isSlot_9 : decode cX7_isSlot 9 = .ok (.iconst 1, 1) := by decide +kernel
theorem dX7_isSlot_10 : decode cX7_isSlot 10 = .ok (.goto 4, 3) := by decide +kernel
theorem dX7_isSlot_13 : decode cX7_isSlot 13 = .ok (.iconst 0, 1) := by decide +kernel
theorem dX7_isSlot_14 : decode cX7_isSlot 14 = .ok (.ireturn, 1) := by decide +kernel
theorem dX7_isNumber_0 : decode cX7_isNumber 0 = .ok (.iload_n 0, 1) := by decide +kernel
theorem dX7_isNumber_1 : decode cX7_isNumber 1 = .ok (.ifCond .lt 13, 3) := by decide +kernel
theorem dX7_isNumber_4 : decode cX7_isNumber 4 = .ok (.iload_n 0, 1) := by decide +kernel
theorem dX7_isNumber_5 : decode cX7_isNumber 5 = .ok (.bipush 40, 2) := by decide +kernel
theorem dX7_isNumber_7 : decode cX7_isNumber 7 = .ok (.if_icmp .gt 7, 3) := by decide +kernel
theorem dX7_isNumber_10 : decode cX7_isNumber 10 = .ok (.iconst 1, 1) := by decide +kernel
theorem dX7_isNumber_11 : decode cX7_isNumber 11 = .ok (.goto 4, 3) := by decide +kernel
theorem dX7_isNumber_14 : decode cX7_isNumber 14 = .ok (.iconst 0, 1) := by decide +kernel
theorem dX7_isNumber_15 : decode cX7_isNumber 15 = .ok (.ireturn, 1) := by decide +kernel
set_option maxRecDepth 20000 in
theorem ggX7_has_X7_isNumber : GoodIn wsX7_has wsX7_isNumber := goodIn_r _ [4] (by decide +kernel) (by decide +kernel)
set_option maxRecDepth 20000 in
theorem gX7_has_X7_isNumber : GoodIn wsX7_has (va_wsS RX7 99 yX7_isNumber wsX7_isNumber) := goodIn_app (goodIn_of _ (by decide +kernel)) ggX7_has_X7_isNumber
theorem dX7_has_0 : decode cX7_has 0 = .ok (.iload_n 2, 1) := by decide +kernel
theorem dX7_has_1 : decode cX7_has 1 = .ok (.invokestatic 99, 3) := by decide +kernel
theorem dX7_has_4 : decode cX7_has 4 = .ok (.ifCond .eq 17, 3) := by decide +kernel
theorem dX7_has_7 : decode cX7_has 7 = .ok (.lload_n 0, 1) := by decide +kernel
theorem dX7_has_8 : decode cX7_has 8 = .ok (.iload_n 2, 1) := by decide +kernel
theorem dX7_has_9 : decode cX7_has 9 = .ok (.lushr, 1) := by decide +kernel
theorem dX7_has_10 : decode cX7_has 10 = .ok (.lconst 1, 1) := by decide +kernel
theorem dX7_has_11 : decode cX7_has 11 = .ok (.land, 1) := by decide +kernel
theorem dX7_has_12 : decode cX7_has 12 = .ok (.lconst 0, 1) := by decide +kernel
theorem dX7_has_13 : decode cX7_has 13 = .ok (.lcmp, 1) := by decide +kernel
theorem dX7_has_14 : decode cX7_has 14 = .ok (.ifCond .eq 7, 3) := by decide +kernel
theorem dX7_has_17 : decode cX7_has 17 = .ok (.iconst 1, 1) := by decide +kernel
theorem dX7_has_18 : decode cX7_has 18 = .ok (.goto 4, 3) := by decide +kernel
theorem dX7_has_21 : decode cX7_has 21 = .ok (.iconst 0, 1) := by decide +kernel
theorem dX7_has_22 : decode cX7_has 22 = .ok (.ireturn, 1) := by decide +kernel
set_option maxRecDepth 20000 in
theorem ggX7_leastOf_J13_numberOfTrailingZeros_95d88 : GoodIn wsX7_leastOf wsJ13_numberOfTrailingZeros_95d88 := goodIn_r _ [4, 5, 6, 7, 8, 9] (by decide +kernel) (by decide +kernel)
set_option maxRecDepth 20000 in
theorem gX7_leastOf_J13_numberOfTrailingZeros_95d88 : GoodIn wsX7_leastOf (va_wsS RX7 226 yJ13_numberOfTrailingZeros_95d88 wsJ13_numberOfTrailingZeros_95d88) := goodIn_app (goodIn_of _ (by decide +kernel)) ggX7_leastOf_J13_numberOfTrailingZeros_95d88
theorem dX7_leastOf_0 : decode cX7_leastOf 0 = .ok (.lload_n 0, 1) := by decide +kernel
theorem dX7_leastOf_1 : decode cX7_leastOf 1 = .ok (.invokestatic 226, 3) := by decide +kernel
theorem dX7_leastOf_4 : decode cX7_leastOf 4 = .ok (.ireturn, 1) := by decide +kernel
set_option maxRecDepth 20000 in
theorem ggX7_greatestOf_J13_numberOfLeadingZeros_95d88 : GoodIn wsX7_greatestOf wsJ13_numberOfLeadingZeros_95d88 := goodIn_r _ [4, 5, 6, 7, 8, 9] (by decide +kernel) (by decide +kernel)
set_option maxRecDepth 20000 in
theorem gX7_greatestOf_J13_numberOfLeadingZeros_95d88 : GoodIn wsX7_greatestOf (va_wsS RX7 229 yJ13_numberOfLeadingZeros_95d88 wsJ13_numberOfLeadingZeros_95d88) := goodIn_app (goodIn_of _ (by decide +kernel)) ggX7_greatestOf_J13_numberOfLeadingZeros_95d88
theorem dX7_greatestOf_0 : decode cX7_greatestOf 0 = .ok (.bipush 63, 2) := by decide +kernel
theorem dX7_greatestOf_2 : decode cX7_greatestOf 2 = .ok (.lload_n 0, 1) := by decide +kernel
theorem dX7_greatestOf_3 : decode cX7_greatestOf 3 = .ok (.invokestatic 229, 3) := by decide +kernel
theorem dX7_greatestOf_6 : decode cX7_greatestOf 6 = .ok (.isub, 1) := by decide +kernel
theorem dX7_greatestOf_7 : decode cX7_greatestOf 7 = .ok (.ireturn, 1) := by decide +kernel
set_option maxRecDepth 20000 in
theorem ggX7_numberAt_J13_bitCount_95d88 : GoodIn wsX7_numberAt wsJ13_bitCount_95d88 := goodIn_r _ [4, 5, 6, 7] (by decide +kernel) (by decide +kernel)
set_option maxRecDepth 20000 in
theorem gX7_numberAt_J13_bitCount_95d88 : GoodIn wsX7_numberAt (va_wsS RX7 145 yJ13_bitCount_95d88 wsJ13_bitCount_95d88) := goodIn_app (goodIn_of _ (by decide +kernel)) ggX7_numberAt_J13_bitCount_95d88
set_option maxRecDepth 20000 in
theorem ggX7_numberAt_X7_leastOf : GoodIn wsX7_numberAt wsX7_leastOf := goodIn_r _ [11, 12, 13, 3, 14, 15, 16, 17, 18, 19] (by decide +kernel) (by decide +kernel)
set_option maxRecDepth 20000 in
theorem gX7_numberAt_X7_leastOf : GoodIn wsX7_numberAt (va_wsS RX7 180 yX7_leastOf wsX7_leastOf) := goodIn_app (goodIn_of _ (by decide +kernel)) ggX7_numberAt_X7_leastOf
theorem dX7_numberAt_0 : decode cX7_numberAt 0 = .ok (.iload_n 2, 1) := by decide +kernel
theorem dX7_numberAt_1 : decode cX7_numberAt 1 = .ok (.ifCond .lt 11, 3) := by decide +kernel
theorem dX7_numberAt_4 : decode cX7_numberAt 4 = .ok (.iload_n 2, 1) := by decide +kernel
theorem dX7_numberAt_5 : decode cX7_numberAt 5 = .ok (.lload_n 0, 1) := by decide +kernel
theorem dX7_numberAt_6 : decode cX7_numberAt 6 = .ok (.invokestatic 145, 3) := by decide +kernel
theorem dX7_numberAt_9 : decode cX7_numberAt 9 = .ok (.if_icmp .lt 6, 3) := by decide +kernel
theorem dX7_numberAt_12 : decode cX7_numberAt 12 = .ok (.bipush (-4), 2) := by decide +kernel
theorem dX7_numberAt_14 : decode cX7_numberAt 14 = .ok (.ireturn, 1) := by decide +kernel
theorem dX7_numberAt_15 : decode cX7_numberAt 15 = .ok (.lload_n 0, 1) := by decide +kernel
theorem dX7_numberAt_16 : decode cX7_numberAt 16 = .ok (.lstore_n 3, 1) := by decide +kernel
theorem dX7_numberAt_17 : decode cX7_numberAt 17 = .ok (.iconst 0, 1) := by decide +kernel
theorem dX7_numberAt_18 : decode cX7_numberAt 18 = .ok (.istore 5, 2) := by decide +kernel
theorem dX7_numberAt_20 : decode cX7_numberAt 20 = .ok (.iload 5, 2) := by decide +kernel
theorem dX7_numberAt_22 : decode cX7_numberAt 22 = .ok (.iload_n 2, 1) := by decide +kernel
theorem dX7_numberAt_23 : decode cX7_numberAt 23 = .ok (.if_icmp .ge 15, 3) := by decide +kernel
theorem dX7_numberAt_26 : decode cX7_numberAt 26 = .ok (.lload_n 3, 1) := by decide +kernel
theorem dX7_numberAt_27 : decode cX7_numberAt 27 = .ok (.lload_n 3, 1) := by decide +kernel
theorem dX7_numberAt_28 : decode cX7_numberAt 28 = .ok (.lconst 1, 1) := by decide +kernel
theorem dX7_numberAt_29 : decode cX7_numberAt 29 = .ok (.lsub, 1) := by decide +kernel
theorem dX7_numberAt_30 : decode cX7_numberAt 30 = .ok (.land, 1) := by decide +kernel
theorem dX7_numberAt_31 : decode cX7_numberAt 31 = .ok (.lstore_n 3, 1) := by decide +kernel
theorem dX7_numberAt_32 : decode cX7_numberAt 32 = .ok (.iinc 5 1, 3) := by decide +kernel
theorem dX7_numberAt_35 : decode cX7_numberAt 35 = .ok (.goto (-15), 3) := by decide +kernel
theorem dX7_numberAt_38 : decode cX7_numberAt 38 = .ok (.lload_n 3, 1) := by decide +kernel
theorem dX7_numberAt_39 : decode cX7_numberAt 39 = .ok (.invokestatic 180, 3) := by decide +kernel
theorem dX7_numberAt_42 : decode cX7_numberAt 42 = .ok (.ireturn, 1) := by decide +kernel
set_option maxRecDepth 20000 in
theorem ggX7_mirrored_J13_reverse_067f4 : GoodIn wsX7_mirrored wsJ13_reverse_067f4 := goodIn_r _ [4, 5, 6, 7, 8, 9, 3, 10, 11, 12] (by decide +kernel) (by decide +kernel)
set_option maxRecDepth 20000 in
theorem gX7_mirrored_J13_reverse_067f4 : GoodIn wsX7_mirrored (va_wsS RX7 232 yJ13_reverse_067f4 wsJ13_reverse_067f4) := goodIn_app (goodIn_of _ (by decide +kernel)) ggX7_mirrored_J13_reverse_067f4
theorem dX7_mirrored_0 : decode cX7_mirrored 0 = .ok (.lload_n 0, 1) := by decide +kernel
theorem dX7_mirrored_1 : decode cX7_mirrored 1 = .ok (.invokestatic 232, 3) := by decide +kernel
theorem dX7_mirrored_4 : decode cX7_mirrored 4 = .ok (.bipush 23, 2) := by decide +kernel
theorem dX7_mirrored_6 : decode cX7_mirrored 6 = .ok (.lushr, 1) := by decide +kernel
theorem dX7_mirrored_7 : decode cX7_mirrored 7 = .ok (.lreturn, 1) := by decide +kernel
set_option maxRecDepth 20000 in
theorem ggX7_listNumbers_X7_has : GoodIn wsX7_listNumbers wsX7_has := goodIn_r _ [4, 5, 6, 3, 7] (by decide +kernel) (by decide +kernel)
set_option maxRecDepth 20000 in
theorem gX7_listNumbers_X7_has : GoodIn wsX7_listNumbers (va_wsS RX7 102 yX7_has wsX7_has) := goodIn_app (goodIn_of _ (by decide +kernel)) ggX7_listNumbers_X7_has
theorem dX7_listNumbers_0 : decode cX7_listNumbers 0 = .ok (.iconst 0, 1) := by decide +kernel
theorem dX7_listNumbers_1 : decode cX7_listNumbers 1 = .ok (.istore_n 3, 1) := by decide +kernel
theorem dX7_listNumbers_2 : decode cX7_listNumbers 2 = .ok (.iconst 0, 1) := by decide +kernel
theorem dX7_listNumbers_3 : decode cX7_listNumbers 3 = .ok (.istore 4, 2) := by decide +kernel
theorem dX7_listNumbers_5 : decode cX7_listNumbers 5 = .ok (.iload 4, 2) := by decide +kernel
theorem dX7_listNumbers_7 : decode cX7_listNumbers 7 = .ok (.bipush 40, 2) := by decide +kernel
theorem dX7_listNumbers_9 : decode cX7_listNumbers 9 = .ok (.if_icmp .gt 32, 3) := by decide +kernel
theorem dX7_listNumbers_12 : decode cX7_listNumbers 12 = .ok (.iload_n 3, 1) := by decide +kernel
theorem dX7_listNumbers_13 : decode cX7_listNumbers 13 = .ok (.aload_n 2, 1) := by decide +kernel
theorem dX7_listNumbers_14 : decode cX7_listNumbers 14 = .ok (.arraylength, 1) := by decide +kernel
theorem dX7_listNumbers_15 : decode cX7_listNumbers 15 = .ok (.if_icmp .ge 26, 3) := by decide +kernel
theorem dX7_listNumbers_18 : decode cX7_listNumbers 18 = .ok (.lload_n 0, 1) := by decide +kernel
theorem dX7_listNumbers_19 : decode cX7_listNumbers 19 = .ok (.iload 4, 2) := by decide +kernel
theorem dX7_listNumbers_21 : decode cX7_listNumbers 21 = .ok (.invokestatic 102, 3) := by decide +kernel
theorem dX7_listNumbers_24 : decode cX7_listNumbers 24 = .ok (.ifCond .eq 11, 3) := by decide +kernel
theorem dX7_listNumbers_27 : decode cX7_listNumbers 27 = .ok (.aload_n 2, 1) := by decide +kernel
theorem dX7_listNumbers_28 : decode cX7_listNumbers 28 = .ok (.iload_n 3, 1) := by decide +kernel
theorem dX7_listNumbers_29 : decode cX7_listNumbers 29 = .ok (.iinc 3 1, 3) := by decide +kernel
theorem dX7_listNumbers_32 : decode cX7_listNumbers 32 = .ok (.iload 4, 2) := by decide +kernel
theorem dX7_listNumbers_34 : decode cX7_listNumbers 34 = .ok (.iastore, 1) := by decide +kernel
theorem dX7_listNumbers_35 : decode cX7_listNumbers 35 = .ok (.iinc 4 1, 3) := by decide +kernel
theorem dX7_listNumbers_38 : decode cX7_listNumbers 38 = .ok (.goto (-33), 3) := by decide +kernel
theorem dX7_listNumbers_41 : decode cX7_listNumbers 41 = .ok (.iload_n 3, 1) := by decide +kernel
theorem dX7_listNumbers_42 : decode cX7_listNumbers 42 = .ok (.ireturn, 1) := by decide +kernel
set_option maxRecDepth 20000 in
theorem ggX7_waysOf_X7_has : GoodIn wsX7_waysOf wsX7_has := goodIn_r _ [4, 5, 6, 3, 7] (by decide +kernel) (by decide +kernel)
set_option maxRecDepth 20000 in
theorem gX7_waysOf_X7_has : GoodIn wsX7_waysOf (va_wsS RX7 102 yX7_has wsX7_has) := goodIn_app (goodIn_of _ (by decide +kernel)) ggX7_waysOf_X7_has
theorem dX7_waysOf_0 : decode cX7_waysOf 0 = .ok (.iconst 0, 1) := by decide +kernel
theorem dX7_waysOf_1 : decode cX7_waysOf 1 = .ok (.istore 5, 2) := by decide +kernel
theorem dX7_waysOf_3 : decode cX7_waysOf 3 = .ok (.iconst 0, 1) := by decide +kernel
theorem dX7_waysOf_4 : decode cX7_waysOf 4 = .ok (.istore 6, 2) := by decide +kernel
theorem dX7_waysOf_6 : decode cX7_waysOf 6 = .ok (.iload 6, 2) := by decide +kernel
theorem dX7_waysOf_8 : decode cX7_waysOf 8 = .ok (.bipush 40, 2) := by decide +kernel
theorem dX7_waysOf_10 : decode cX7_waysOf 10 = .ok (.if_icmp .gt 33, 3) := by decide +kernel
theorem dX7_waysOf_13 : decode cX7_waysOf 13 = .ok (.lload_n 0, 1) := by decide +kernel
theorem dX7_waysOf_14 : decode cX7_waysOf 14 = .ok (.iload 6, 2) := by decide +kernel
theorem dX7_waysOf_16 : decode cX7_waysOf 16 = .ok (.invokestatic 102, 3) := by decide +kernel
theorem dX7_waysOf_19 : decode cX7_waysOf 19 = .ok (.ifCond .eq 18, 3) := by decide +kernel
theorem dX7_waysOf_22 : decode cX7_waysOf 22 = .ok (.lload_n 2, 1) := by decide +kernel
theorem dX7_waysOf_23 : decode cX7_waysOf 23 = .ok (.iload 4, 2) := by decide +kernel
theorem dX7_waysOf_25 : decode cX7_waysOf 25 = .ok (.iload 6, 2) := by decide +kernel
theorem dX7_waysOf_27 : decode cX7_waysOf 27 = .ok (.isub, 1) := by decide +kernel
theorem dX7_waysOf_28 : decode cX7_waysOf 28 = .ok (.invokestatic 102, 3) := by decide +kernel
theorem dX7_waysOf_31 : decode cX7_waysOf 31 = .ok (.ifCond .eq 6, 3) := by decide +kernel
theorem dX7_waysOf_34 : decode cX7_waysOf 34 = .ok (.iinc 5 1, 3) := by decide +kernel
theorem dX7_waysOf_37 : decode cX7_waysOf 37 = .ok (.iinc 6 1, 3) := by decide +kernel
theorem dX7_waysOf_40 : decode cX7_waysOf 40 = .ok (.goto (-34), 3) := by decide +kernel
theorem dX7_waysOf_43 : decode cX7_waysOf 43 = .ok (.iload 5, 2) := by decide +kernel
theorem dX7_waysOf_45 : decode cX7_waysOf 45 = .ok (.ireturn, 1) := by decide +kernel
set_option maxRecDepth 20000 in
theorem ggX7_fewestSums_J13_bitCount_95d88 : GoodIn wsX7_fewestSums wsJ13_bitCount_95d88 := goodIn_r _ [4, 5, 6, 7] (by decide +kernel) (by decide +kernel)
set_option maxRecDepth 20000 in
theorem gX7_fewestSums_J13_bitCount_95d88 : GoodIn wsX7_fewestSums (va_wsS RX7 145 yJ13_bitCount_95d88 wsJ13_bitCount_95d88) := goodIn_app (goodIn_of _ (by decide +kernel)) ggX7_fewestSums_J13_bitCount_95d88
theorem dX7_fewestSums_0 : decode cX7_fewestSums 0 = .ok (.lload_n 0, 1) := by decide +kernel
theorem dX7_fewestSums_1 : decode cX7_fewestSums 1 = .ok (.invokestatic 145, 3) := by decide +kernel
theorem dX7_fewestSums_4 : decode cX7_fewestSums 4 = .ok (.lload_n 2, 1) := by decide +kernel
theorem dX7_fewestSums_5 : decode cX7_fewestSums 5 = .ok (.invokestatic 145, 3) := by decide +kernel
theorem dX7_fewestSums_8 : decode cX7_fewestSums 8 = .ok (.iadd, 1) := by decide +kernel
theorem dX7_fewestSums_9 : decode cX7_fewestSums 9 = .ok (.iconst 1, 1) := by decide +kernel
theorem dX7_fewestSums_10 : decode cX7_fewestSums 10 = .ok (.isub, 1) := by decide +kernel
theorem dX7_fewestSums_11 : decode cX7_fewestSums 11 = .ok (.ireturn, 1) := by decide +kernel
set_option maxRecDepth 20000 in
theorem ggX7_coverStep_X7_leastOf : GoodIn wsX7_coverStep wsX7_leastOf := goodIn_r _ [4, 5, 6, 7, 8, 9, 10, 11, 12, 13] (by decide +kernel) (by decide +kernel)
set_option maxRecDepth 20000 in
theorem gX7_coverStep_X7_leastOf : GoodIn wsX7_coverStep (va_wsS RX7 180 yX7_leastOf wsX7_leastOf) := goodIn_app (goodIn_of _ (by decide +kernel)) ggX7_coverStep_X7_leastOf
set_option maxRecDepth 20000 in
theorem ggX7_coverStep_X7_has : GoodIn wsX7_coverStep wsX7_has := goodIn_r _ [16, 17, 18, 3, 19] (by decide +kernel) (by decide +kernel)
set_option maxRecDepth 20000 in
theorem gX7_coverStep_X7_has : GoodIn wsX7_coverStep (va_wsS RX7 102 yX7_has wsX7_has) := goodIn_app (goodIn_of _ (by decide +kernel)) ggX7_coverStep_X7_has
set_option maxRecDepth 20000 in
theorem ggX7_coverStep_X7_greatestDivisor : GoodIn wsX7_coverStep wsX7_greatestDivisor := goodIn_r _ [22] (by decide +kernel) (by decide +kernel)
set_option maxRecDepth 20000 in
theorem gX7_coverStep_X7_greatestDivisor : GoodIn wsX7_coverStep (va_wsS RX7 235 yX7_greatestDivisor wsX7_greatestDivisor) := goodIn_app (goodIn_of _ (by decide +kernel)) ggX7_coverStep_X7_greatestDivisor
theorem dX7_coverStep_0 : decode cX7_coverStep 0 = .ok (.lload_n 0, 1) := by decide +kernel
theorem dX7_coverStep_1 : decode cX7_coverStep 1 = .ok (.invokestatic 180, 3) := by decide +kernel
theorem dX7_coverStep_4 : decode cX7_coverStep 4 = .ok (.istore_n 2, 1) := by decide +kernel
theorem dX7_coverStep_5 : decode cX7_coverStep 5 = .ok (.iconst 0, 1) := by decide +kernel
theorem dX7_coverStep_6 : decode cX7_coverStep 6 = .ok (.istore_n 3, 1) := by decide +kernel
theorem dX7_coverStep_7 : decode cX7_coverStep 7 = .ok (.iload_n 2, 1) := by decide +kernel
theorem dX7_coverStep_8 : decode cX7_coverStep 8 = .ok (.iconst 1, 1) := by decide +kernel
theorem dX7_coverStep_9 : decode cX7_coverStep 9 = .ok (.iadd, 1) := by decide +kernel
theorem dX7_coverStep_10 : decode cX7_coverStep 10 = .ok (.istore 4, 2) := by decide +kernel
theorem dX7_coverStep_12 : decode cX7_coverStep 12 = .ok (.iload 4, 2) := by decide +kernel
theorem dX7_coverStep_14 : decode cX7_coverStep 14 = .ok (.bipush 40, 2) := by decide +kernel
theorem dX7_coverStep_16 : decode cX7_coverStep 16 = .ok (.if_icmp .gt 27, 3) := by decide +kernel
theorem dX7_coverStep_19 : decode cX7_coverStep 19 = .ok (.lload_n 0, 1) := by decide +kernel
theorem dX7_coverStep_20 : decode cX7_coverStep 20 = .ok (.iload 4, 2) := by decide +kernel
theorem dX7_coverStep_22 : decode cX7_coverStep 22 = .ok (.invokestatic 102, 3) := by decide +kernel
theorem dX7_coverStep_25 : decode cX7_coverStep 25 = .ok (.ifCond .eq 12, 3) := by decide +kernel
theorem dX7_coverStep_28 : decode cX7_coverStep 28 = .ok (.iload_n 3, 1) := by decide +kernel
theorem dX7_coverStep_29 : decode cX7_coverStep 29 = .ok (.iload 4, 2) := by decide +kernel
theorem dX7_coverStep_31 : decode cX7_coverStep 31 = .ok (.iload_n 2, 1) := by decide +kernel
theorem dX7_coverStep_32 : decode cX7_coverStep 32 = .ok (.isub, 1) := by decide +kernel
theorem dX7_coverStep_33 : decode cX7_coverStep 33 = .ok (.invokestatic 235, 3) := by decide +kernel
theorem dX7_coverStep_36 : decode cX7_coverStep 36 = .ok (.istore_n 3, 1) := by decide +kernel
theorem dX7_coverStep_37 : decode cX7_coverStep 37 = .ok (.iinc 4 1, 3) := by decide +kernel
theorem dX7_coverStep_40 : decode cX7_coverStep 40 = .ok (.goto (-28), 3) := by decide +kernel
theorem dX7_coverStep_43 : decode cX7_coverStep 43 = .ok (.iload_n 3, 1) := by decide +kernel
theorem dX7_coverStep_44 : decode cX7_coverStep 44 = .ok (.ifCond .ne 7, 3) := by decide +kernel
theorem dX7_coverStep_47 : decode cX7_coverStep 47 = .ok (.iconst 1, 1) := by decide +kernel
theorem dX7_coverStep_48 : decode cX7_coverStep 48 = .ok (.goto 4, 3) := by decide +kernel
theorem dX7_coverStep_51 : decode cX7_coverStep 51 = .ok (.iload_n 3, 1) := by decide +kernel
theorem dX7_coverStep_52 : decode cX7_coverStep 52 = .ok (.ireturn, 1) := by decide +kernel
set_option maxRecDepth 20000 in
theorem ggX7_coverLength_X7_coverStep : GoodIn wsX7_coverLength wsX7_coverStep := goodIn_r _ [4, 5, 6, 3, 7, 8, 9, 10, 11, 12, 13, 14, 15, 16, 17, 18, 19, 20, 21, 22, 23, 24, 25] (by decide +kernel) (by decide +kernel)
set_option maxRecDepth 20000 in
theorem gX7_coverLength_X7_coverStep : GoodIn wsX7_coverLength (va_wsS RX7 183 yX7_coverStep wsX7_coverStep) := goodIn_app (goodIn_of _ (by decide +kernel)) ggX7_coverLength_X7_coverStep
set_option maxRecDepth 20000 in
theorem ggX7_coverLength_X7_greatestOf : GoodIn wsX7_coverLength wsX7_greatestOf := goodIn_r _ [28, 29, 30, 10, 31, 32, 33, 14, 34, 16] (by decide +kernel) (by decide +kernel)
set_option maxRecDepth 20000 in
theorem gX7_coverLength_X7_greatestOf : GoodIn wsX7_coverLength (va_wsS RX7 239 yX7_greatestOf wsX7_greatestOf) := goodIn_app (goodIn_of _ (by decide +kernel)) ggX7_coverLength_X7_greatestOf
set_option maxRecDepth 20000 in
theorem ggX7_coverLength_X7_leastOf : GoodIn wsX7_coverLength wsX7_leastOf := goodIn_r _ [7, 8, 9, 10, 11, 12, 13, 14, 15, 16] (by decide +kernel) (by decide +kernel)
set_option maxRecDepth 20000 in
theorem gX7_coverLength_X7_leastOf : GoodIn wsX7_coverLength (va_wsS RX7 180 yX7_leastOf wsX7_leastOf) := goodIn_app (goodIn_of _ (by decide +kernel)) ggX7_coverLength_X7_leastOf
theorem dX7_coverLength_0 : decode cX7_coverLength 0 = .ok (.lload_n 0, 1) := by decide +kernel
theorem dX7_coverLength_1 : decode cX7_coverLength 1 = .ok (.invokestatic 183, 3) := by decide +kernel
theorem dX7_coverLength_4 : decode cX7_coverLength 4 = .ok (.istore_n 2, 1) := by decide +kernel
theorem dX7_coverLength_5 : decode cX7_coverLength 5 = .ok (.iload_n 2, 1) := by decide +kernel
theorem dX7_coverLength_6 : decode cX7_coverLength 6 = .ok (.iconst 1, 1) := by decide +kernel
theorem dX7_coverLength_7 : decode cX7_coverLength 7 = .ok (.if_icmp .ge 8, 3) := by decide +kernel
theorem dX7_coverLength_10 : decode cX7_coverLength 10 = .ok (.bipush (-4), 2) := by decide +kernel
theorem dX7_coverLength_12 : decode cX7_coverLength 12 = .ok (.goto 16, 3) := by decide +kernel
theorem dX7_coverLength_15 : decode cX7_coverLength 15 = .ok (.lload_n 0, 1) := by decide +kernel
theorem dX7_coverLength_16 : decode cX7_coverLength 16 = .ok (.invokestatic 239, 3) := by decide +kernel
theorem dX7_coverLength_19 : decode cX7_coverLength 19 = .ok (.lload_n 0, 1) := by decide +kernel
theorem dX7_coverLength_20 : decode cX7_coverLength 20 = .ok (.invokestatic 180, 3) := by decide +kernel
theorem dX7_coverLength_23 : decode cX7_coverLength 23 = .ok (.isub, 1) := by decide +kernel
theorem dX7_coverLength_24 : decode cX7_coverLength 24 = .ok (.iload_n 2, 1) := by decide +kernel
theorem dX7_coverLength_25 : decode cX7_coverLength 25 = .ok (.idiv, 1) := by decide +kernel
theorem dX7_coverLength_26 : decode cX7_coverLength 26 = .ok (.iconst 1, 1) := by decide +kernel
theorem dX7_coverLength_27 : decode cX7_coverLength 27 = .ok (.iadd, 1) := by decide +kernel
theorem dX7_coverLength_28 : decode cX7_coverLength 28 = .ok (.ireturn, 1) := by decide +kernel
theorem dX7_greatestDivisor_0 : decode cX7_greatestDivisor 0 = .ok (.iload_n 0, 1) := by decide +kernel
theorem dX7_greatestDivisor_1 : decode cX7_greatestDivisor 1 = .ok (.istore_n 2, 1) := by decide +kernel
theorem dX7_greatestDivisor_2 : decode cX7_greatestDivisor 2 = .ok (.iload_n 1, 1) := by decide +kernel
theorem dX7_greatestDivisor_3 : decode cX7_greatestDivisor 3 = .ok (.istore_n 3, 1) := by decide +kernel
theorem dX7_greatestDivisor_4 : decode cX7_greatestDivisor 4 = .ok (.iconst 0, 1) := by decide +kernel
theorem dX7_greatestDivisor_5 : decode cX7_greatestDivisor 5 = .ok (.istore 4, 2) := by decide +kernel
theorem dX7_greatestDivisor_7 : decode cX7_greatestDivisor 7 = .ok (.iload 4, 2) := by decide +kernel
theorem dX7_greatestDivisor_9 : decode cX7_greatestDivisor 9 = .ok (.bipush 64, 2) := by decide +kernel
theorem dX7_greatestDivisor_11 : decode cX7_greatestDivisor 11 = .ok (.if_icmp .ge 23, 3) := by decide +kernel
theorem dX7_greatestDivisor_14 : decode cX7_greatestDivisor 14 = .ok (.iload_n 3, 1) := by decide +kernel
theorem dX7_greatestDivisor_15 : decode cX7_greatestDivisor 15 = .ok (.ifCond .eq 19, 3) := by decide +kernel
theorem dX7_greatestDivisor_18 : decode cX7_greatestDivisor 18 = .ok (.iload_n 2, 1) := by decide +kernel
theorem dX7_greatestDivisor_19 : decode cX7_greatestDivisor 19 = .ok (.iload_n 3, 1) := by decide +kernel
theorem dX7_greatestDivisor_20 : decode cX7_greatestDivisor 20 = .ok (.irem, 1) := by decide +kernel
theorem dX7_greatestDivisor_21 : decode cX7_greatestDivisor 21 = .ok (.istore 5, 2) := by decide +kernel
theorem dX7_greatestDivisor_23 : decode cX7_greatestDivisor 23 = .ok (.iload_n 3, 1) := by decide +kernel
theorem dX7_greatestDivisor_24 : decode cX7_greatestDivisor 24 = .ok (.istore_n 2, 1) := by decide +kernel
theorem dX7_greatestDivisor_25 : decode cX7_greatestDivisor 25 = .ok (.iload 5, 2) := by decide +kernel
theorem dX7_greatestDivisor_27 : decode cX7_greatestDivisor 27 = .ok (.istore_n 3, 1) := by decide +kernel
theorem dX7_greatestDivisor_28 : decode cX7_greatestDivisor 28 = .ok (.iinc 4 1, 3) := by decide +kernel
theorem dX7_greatestDivisor_31 : decode cX7_greatestDivisor 31 = .ok (.goto (-24), 3) := by decide +kernel
theorem dX7_greatestDivisor_34 : decode cX7_greatestDivisor 34 = .ok (.iload_n 2, 1) := by decide +kernel
theorem dX7_greatestDivisor_35 : decode cX7_greatestDivisor 35 = .ok (.ireturn, 1) := by decide +kernel
