theorem dX2_init_0 : decode cX2_init 0 = .ok (.aload_n 0, 1) := by decide +kernel
theorem dX2_init_1 : decode cX2_init 1 = .ok (.invokespecial 3, 3) := by decide +kernel
theorem dX2_init_4 : decode cX2_init 4 = .ok (.aload_n 0, 1) := by decide +kernel
theorem dX2_init_5 : decode cX2_init 5 = .ok (.bipush 7, 2) := by decide +kernel
theorem dX2_init_7 : decode cX2_init 7 = .ok (.newarray .int, 2) := by decide +kernel
theorem dX2_init_9 : decode cX2_init 9 = .ok (.putfield 9, 3) := by decide +kernel
theorem dX2_init_12 : decode cX2_init 12 = .ok (.aload_n 0, 1) := by decide +kernel
theorem dX2_init_13 : decode cX2_init 13 = .ok (.bipush 7, 2) := by decide +kernel
theorem dX2_init_15 : decode cX2_init 15 = .ok (.newarray .int, 2) := by decide +kernel
theorem dX2_init_17 : decode cX2_init 17 = .ok (.putfield 15, 3) := by decide +kernel
theorem dX2_init_20 : decode cX2_init 20 = .ok (.aload_n 0, 1) := by decide +kernel
theorem dX2_init_21 : decode cX2_init 21 = .ok (.bipush 7, 2) := by decide +kernel
theorem dX2_init_23 : decode cX2_init 23 = .ok (.newarray .int, 2) := by decide +kernel
theorem dX2_init_25 : decode cX2_init 25 = .ok (.putfield 18, 3) := by decide +kernel
theorem dX2_init_28 : decode cX2_init 28 = .ok (.aload_n 0, 1) := by decide +kernel
theorem dX2_init_29 : decode cX2_init 29 = .ok (.bipush 81, 2) := by decide +kernel
theorem dX2_init_31 : decode cX2_init 31 = .ok (.newarray .int, 2) := by decide +kernel
theorem dX2_init_33 : decode cX2_init 33 = .ok (.putfield 21, 3) := by decide +kernel
theorem dX2_init_36 : decode cX2_init 36 = .ok (.aload_n 0, 1) := by decide +kernel
theorem dX2_init_37 : decode cX2_init 37 = .ok (.bipush 81, 2) := by decide +kernel
theorem dX2_init_39 : decode cX2_init 39 = .ok (.newarray .int, 2) := by decide +kernel
theorem dX2_init_41 : decode cX2_init 41 = .ok (.putfield 24, 3) := by decide +kernel
theorem dX2_init_44 : decode cX2_init 44 = .ok (.aload_n 0, 1) := by decide +kernel
theorem dX2_init_45 : decode cX2_init 45 = .ok (.bipush 81, 2) := by decide +kernel
theorem dX2_init_47 : decode cX2_init 47 = .ok (.newarray .int, 2) := by decide +kernel
theorem dX2_init_49 : decode cX2_init 49 = .ok (.putfield 27, 3) := by decide +kernel
theorem dX2_init_52 : decode cX2_init 52 = .ok (.aload_n 0, 1) := by decide +kernel
theorem dX2_init_53 : decode cX2_init 53 = .ok (.bipush 81, 2) := by decide +kernel
theorem dX2_init_55 : decode cX2_init 55 = .ok (.newarray .int, 2) := by decide +kernel
theorem dX2_init_57 : decode cX2_init 57 = .ok (.putfield 30, 3) := by decide +kernel
theorem dX2_init_60 : decode cX2_init 60 = .ok (.return_, 1) := by decide +kernel
set_option maxRecDepth 20000 in
theorem ggX2_seek_X7_listNumbers : GoodIn wsX2_seek wsX7_listNumbers := goodIn_r _ [16, 17, 18, 15, 19, 20, 21, 22] (by decide +kernel) (by decide +kernel)
set_option maxRecDepth 20000 in
theorem gX2_seek_X7_listNumbers_n40 : GoodIn wsX2_seek (wsX7_listNumbers) := ggX2_seek_X7_listNumbers
set_option maxRecDepth 20000 in
theorem ggX2_seek_J7_fill_53178 : GoodIn wsX2_seek wsJ7_fill_53178 := goodIn_r _ [26] (by decide +kernel) (by decide +kernel)
set_option maxRecDepth 20000 in
theorem gX2_seek_J7_fill_53178 : GoodIn wsX2_seek (va_wsS RX2 57 yJ7_fill_53178 wsJ7_fill_53178) := goodIn_app (goodIn_of _ (by decide +kernel)) ggX2_seek_J7_fill_53178
set_option maxRecDepth 20000 in
theorem ggX2_seek_X2_pairFrom : GoodIn wsX2_seek wsX2_pairFrom := goodIn_r _ [30, 9, 10, 31, 32, 33, 29, 34, 35, 3, 4, 11, 36, 12, 37, 27, 28, 38, 39, 40, 41, 42, 43, 44, 45, 46, 47, 48, 49, 50, 51, 52, 53] (by decide +kernel) (by decide +kernel)
set_option maxRecDepth 20000 in
theorem gX2_seek_X2_pairFrom : GoodIn wsX2_seek (va_wsS RX2 63 yX2_pairFrom wsX2_pairFrom) := goodIn_app (goodIn_of _ (by decide +kernel)) ggX2_seek_X2_pairFrom
theorem dX2_seek_0 : decode cX2_seek 0 = .ok (.lload_n 1, 1) := by decide +kernel
theorem dX2_seek_1 : decode cX2_seek 1 = .ok (.aload_n 0, 1) := by decide +kernel
theorem dX2_seek_2 : decode cX2_seek 2 = .ok (.getfield 33, 3) := by decide +kernel
theorem dX2_seek_5 : decode cX2_seek 5 = .ok (.lcmp, 1) := by decide +kernel
theorem dX2_seek_6 : decode cX2_seek 6 = .ok (.ifCond .ne 12, 3) := by decide +kernel
theorem dX2_seek_9 : decode cX2_seek 9 = .ok (.lload_n 3, 1) := by decide +kernel
theorem dX2_seek_10 : decode cX2_seek 10 = .ok (.aload_n 0, 1) := by decide +kernel
theorem dX2_seek_11 : decode cX2_seek 11 = .ok (.getfield 37, 3) := by decide +kernel
theorem dX2_seek_14 : decode cX2_seek 14 = .ok (.lcmp, 1) := by decide +kernel
theorem dX2_seek_15 : decode cX2_seek 15 = .ok (.ifCond .eq 66, 3) := by decide +kernel
theorem dX2_seek_18 : decode cX2_seek 18 = .ok (.aload_n 0, 1) := by decide +kernel
theorem dX2_seek_19 : decode cX2_seek 19 = .ok (.lload_n 1, 1) := by decide +kernel
theorem dX2_seek_20 : decode cX2_seek 20 = .ok (.putfield 33, 3) := by decide +kernel
theorem dX2_seek_23 : decode cX2_seek 23 = .ok (.aload_n 0, 1) := by decide +kernel
theorem dX2_seek_24 : decode cX2_seek 24 = .ok (.lload_n 3, 1) := by decide +kernel
theorem dX2_seek_25 : decode cX2_seek 25 = .ok (.putfield 37, 3) := by decide +kernel
theorem dX2_seek_28 : decode cX2_seek 28 = .ok (.aload_n 0, 1) := by decide +kernel
theorem dX2_seek_29 : decode cX2_seek 29 = .ok (.lload_n 1, 1) := by decide +kernel
theorem dX2_seek_30 : decode cX2_seek 30 = .ok (.aload_n 0, 1) := by decide +kernel
theorem dX2_seek_31 : decode cX2_seek 31 = .ok (.getfield 9, 3) := by decide +kernel
theorem dX2_seek_34 : decode cX2_seek 34 = .ok (.invokestatic 40, 3) := by decide +kernel
theorem dX2_seek_37 : decode cX2_seek 37 = .ok (.lload_n 3, 1) := by decide +kernel
theorem dX2_seek_38 : decode cX2_seek 38 = .ok (.aload_n 0, 1) := by decide +kernel
theorem dX2_seek_39 : decode cX2_seek 39 = .ok (.getfield 15, 3) := by decide +kernel
theorem dX2_seek_42 : decode cX2_seek 42 = .ok (.invokestatic 40, 3) := by decide +kernel
theorem dX2_seek_45 : decode cX2_seek 45 = .ok (.invokestatic 44, 3) := by decide +kernel
theorem dX2_seek_48 : decode cX2_seek 48 = .ok (.putfield 50, 3) := by decide +kernel
theorem dX2_seek_51 : decode cX2_seek 51 = .ok (.aload_n 0, 1) := by decide +kernel
theorem dX2_seek_52 : decode cX2_seek 52 = .ok (.iconst 0, 1) := by decide +kernel
theorem dX2_seek_53 : decode cX2_seek 53 = .ok (.putfield 54, 3) := by decide +kernel
theorem dX2_seek_56 : decode cX2_seek 56 = .ok (.aload_n 0, 1) := by decide +kernel
theorem dX2_seek_57 : decode cX2_seek 57 = .ok (.getfield 27, 3) := by decide +kernel
theorem dX2_seek_60 : decode cX2_seek 60 = .ok (.iconst 0, 1) := by decide +kernel
theorem dX2_seek_61 : decode cX2_seek 61 = .ok (.invokestatic 57, 3) := by decide +kernel
theorem dX2_seek_64 : decode cX2_seek 64 = .ok (.aload_n 0, 1) := by decide +kernel
theorem dX2_seek_65 : decode cX2_seek 65 = .ok (.getfield 30, 3) := by decide +kernel
theorem dX2_seek_68 : decode cX2_seek 68 = .ok (.iconst 0, 1) := by decide +kernel
theorem dX2_seek_69 : decode cX2_seek 69 = .ok (.invokestatic 57, 3) := by decide +kernel
theorem dX2_seek_72 : decode cX2_seek 72 = .ok (.aload_n 0, 1) := by decide +kernel
theorem dX2_seek_73 : decode cX2_seek 73 = .ok (.aload_n 0, 1) := by decide +kernel
theorem dX2_seek_74 : decode cX2_seek 74 = .ok (.iconst 0, 1) := by decide +kernel
theorem dX2_seek_75 : decode cX2_seek 75 = .ok (.invokestatic 63, 3) := by decide +kernel
theorem dX2_seek_78 : decode cX2_seek 78 = .ok (.putfield 67, 3) := by decide +kernel
theorem dX2_seek_81 : decode cX2_seek 81 = .ok (.aload_n 0, 1) := by decide +kernel
theorem dX2_seek_82 : decode cX2_seek 82 = .ok (.getfield 67, 3) := by decide +kernel
theorem dX2_seek_85 : decode cX2_seek 85 = .ok (.ireturn, 1) := by decide +kernel
theorem dX2_partnerOf_0 : decode cX2_partnerOf 0 = .ok (.iload_n 1, 1) := by decide +kernel
theorem dX2_partnerOf_1 : decode cX2_partnerOf 1 = .ok (.ifCond .lt 25, 3) := by decide +kernel
theorem dX2_partnerOf_4 : decode cX2_partnerOf 4 = .ok (.iload_n 1, 1) := by decide +kernel
theorem dX2_partnerOf_5 : decode cX2_partnerOf 5 = .ok (.aload_n 0, 1) := by decide +kernel
theorem dX2_partnerOf_6 : decode cX2_partnerOf 6 = .ok (.getfield 50, 3) := by decide +kernel
theorem dX2_partnerOf_9 : decode cX2_partnerOf 9 = .ok (.if_icmp .ge 17, 3) := by decide +kernel
theorem dX2_partnerOf_12 : decode cX2_partnerOf 12 = .ok (.aload_n 0, 1) := by decide +kernel
theorem dX2_partnerOf_13 : decode cX2_partnerOf 13 = .ok (.getfield 15, 3) := by decide +kernel
theorem dX2_partnerOf_16 : decode cX2_partnerOf 16 = .ok (.aload_n 0, 1) := by decide +kernel
theorem dX2_partnerOf_17 : decode cX2_partnerOf 17 = .ok (.getfield 18, 3) := by decide +kernel
theorem dX2_partnerOf_20 : decode cX2_partnerOf 20 = .ok (.iload_n 1, 1) := by decide +kernel
theorem dX2_partnerOf_21 : decode cX2_partnerOf 21 = .ok (.iaload, 1) := by decide +kernel
theorem dX2_partnerOf_22 : decode cX2_partnerOf 22 = .ok (.iaload, 1) := by decide +kernel
theorem dX2_partnerOf_23 : decode cX2_partnerOf 23 = .ok (.goto 5, 3) := by decide +kernel
theorem dX2_partnerOf_26 : decode cX2_partnerOf 26 = .ok (.bipush (-4), 2) := by decide +kernel
theorem dX2_partnerOf_28 : decode cX2_partnerOf 28 = .ok (.ireturn, 1) := by decide +kernel
set_option maxRecDepth 20000 in
theorem ggX2_pairFrom_X2_join : GoodIn wsX2_pairFrom wsX2_join := goodIn_r _ [7, 8, 2, 9, 10, 11, 12, 13, 14, 21, 22, 23, 24, 25, 26, 27, 28, 29, 30, 31, 32] (by decide +kernel) (by decide +kernel)
set_option maxRecDepth 20000 in
theorem gX2_pairFrom_X2_join : GoodIn wsX2_pairFrom (wsV RX2 71 RX2 yX2_join wsX2_join) := goodIn_app (goodIn_of _ (by decide +kernel)) ggX2_pairFrom_X2_join
set_option maxRecDepth 20000 in
theorem ggX2_pairFrom_X2_pairFrom : GoodIn wsX2_pairFrom wsX2_pairFrom := goodIn_r _ [0, 1, 2, 3, 4, 5, 6, 7, 8, 9, 10, 11, 12, 13, 14, 15, 16, 17, 18, 19, 20, 21, 22, 23, 24, 25, 26, 27, 28, 29, 30, 31, 32] (by decide +kernel) (by decide +kernel)
set_option maxRecDepth 20000 in
theorem gX2_pairFrom_X2_pairFrom : GoodIn wsX2_pairFrom (va_wsS RX2 63 yX2_pairFrom wsX2_pairFrom) := goodIn_app (goodIn_of _ (by decide +kernel)) ggX2_pairFrom_X2_pairFrom
set_option maxRecDepth 20000 in
theorem ggX2_pairFrom_X2_part : GoodIn wsX2_pairFrom wsX2_part := goodIn_r _ [20, 8, 2, 11, 9, 13, 10, 21, 22, 23, 24, 25, 26, 27, 28, 29, 30, 31, 32] (by decide +kernel) (by decide +kernel)
set_option maxRecDepth 20000 in
theorem gX2_pairFrom_X2_part : GoodIn wsX2_pairFrom (wsV RX2 74 RX2 yX2_part wsX2_part) := goodIn_app (goodIn_of _ (by decide +kernel)) ggX2_pairFrom_X2_part
theorem dX2_pairFrom_0 : decode cX2_pairFrom 0 = .ok (.iload_n 1, 1) := by decide +kernel
theorem dX2_pairFrom_1 : decode cX2_pairFrom 1 = .ok (.aload_n 0, 1) := by decide +kernel
theorem dX2_pairFrom_2 : decode cX2_pairFrom 2 = .ok (.getfield 50, 3) := by decide +kernel
theorem dX2_pairFrom_5 : decode cX2_pairFrom 5 = .ok (.if_icmp .ge 9, 3) := by decide +kernel
theorem dX2_pairFrom_8 : decode cX2_pairFrom 8 = .ok (.iload_n 1, 1) := by decide +kernel
theorem dX2_pairFrom_9 : decode cX2_pairFrom 9 = .ok (.bipush 7, 2) := by decide +kernel
theorem dX2_pairFrom_11 : decode cX2_pairFrom 11 = .ok (.if_icmp .lt 5, 3) := by decide +kernel
theorem dX2_pairFrom_14 : decode cX2_pairFrom 14 = .ok (.iconst 1, 1) := by decide +kernel
theorem dX2_pairFrom_15 : decode cX2_pairFrom 15 = .ok (.ireturn, 1) := by decide +kernel
theorem dX2_pairFrom_16 : decode cX2_pairFrom 16 = .ok (.iconst 0, 1) := by decide +kernel
theorem dX2_pairFrom_17 : decode cX2_pairFrom 17 = .ok (.istore_n 2, 1) := by decide +kernel
theorem dX2_pairFrom_18 : decode cX2_pairFrom 18 = .ok (.iload_n 2, 1) := by decide +kernel
theorem dX2_pairFrom_19 : decode cX2_pairFrom 19 = .ok (.aload_n 0, 1) := by decide +kernel
theorem dX2_pairFrom_20 : decode cX2_pairFrom 20 = .ok (.getfield 50, 3) := by decide +kernel
theorem dX2_pairFrom_23 : decode cX2_pairFrom 23 = .ok (.if_icmp .ge 50, 3) := by decide +kernel
theorem dX2_pairFrom_26 : decode cX2_pairFrom 26 = .ok (.aload_n 0, 1) := by decide +kernel
theorem dX2_pairFrom_27 : decode cX2_pairFrom 27 = .ok (.getfield 54, 3) := by decide +kernel
theorem dX2_pairFrom_30 : decode cX2_pairFrom 30 = .ok (.iload_n 2, 1) := by decide +kernel
theorem dX2_pairFrom_31 : decode cX2_pairFrom 31 = .ok (.iushr, 1) := by decide +kernel
theorem dX2_pairFrom_32 : decode cX2_pairFrom 32 = .ok (.iconst 1, 1) := by decide +kernel
theorem dX2_pairFrom_33 : decode cX2_pairFrom 33 = .ok (.iand, 1) := by decide +kernel
theorem dX2_pairFrom_34 : decode cX2_pairFrom 34 = .ok (.ifCond .ne 33, 3) := by decide +kernel
theorem dX2_pairFrom_37 : decode cX2_pairFrom 37 = .ok (.aload_n 0, 1) := by decide +kernel
theorem dX2_pairFrom_38 : decode cX2_pairFrom 38 = .ok (.iload_n 1, 1) := by decide +kernel
theorem dX2_pairFrom_39 : decode cX2_pairFrom 39 = .ok (.iload_n 2, 1) := by decide +kernel
theorem dX2_pairFrom_40 : decode cX2_pairFrom 40 = .ok (.invokevirtual 71, 3) := by decide +kernel
theorem dX2_pairFrom_43 : decode cX2_pairFrom 43 = .ok (.istore_n 3, 1) := by decide +kernel
theorem dX2_pairFrom_44 : decode cX2_pairFrom 44 = .ok (.iload_n 3, 1) := by decide +kernel
theorem dX2_pairFrom_45 : decode cX2_pairFrom 45 = .ok (.iload_n 1, 1) := by decide +kernel
theorem dX2_pairFrom_46 : decode cX2_pairFrom 46 = .ok (.if_icmp .le 15, 3) := by decide +kernel
theorem dX2_pairFrom_49 : decode cX2_pairFrom 49 = .ok (.aload_n 0, 1) := by decide +kernel
theorem dX2_pairFrom_50 : decode cX2_pairFrom 50 = .ok (.iload_n 1, 1) := by decide +kernel
theorem dX2_pairFrom_51 : decode cX2_pairFrom 51 = .ok (.iconst 1, 1) := by decide +kernel
theorem dX2_pairFrom_52 : decode cX2_pairFrom 52 = .ok (.iadd, 1) := by decide +kernel
theorem dX2_pairFrom_53 : decode cX2_pairFrom 53 = .ok (.invokestatic 63, 3) := by decide +kernel
theorem dX2_pairFrom_56 : decode cX2_pairFrom 56 = .ok (.ifCond .eq 5, 3) := by decide +kernel
theorem dX2_pairFrom_59 : decode cX2_pairFrom 59 = .ok (.iconst 1, 1) := by decide +kernel
theorem dX2_pairFrom_60 : decode cX2_pairFrom 60 = .ok (.ireturn, 1) := by decide +kernel
theorem dX2_pairFrom_61 : decode cX2_pairFrom 61 = .ok (.aload_n 0, 1) := by decide +kernel
theorem dX2_pairFrom_62 : decode cX2_pairFrom 62 = .ok (.iload_n 1, 1) := by decide +kernel
theorem dX2_pairFrom_63 : decode cX2_pairFrom 63 = .ok (.iload_n 3, 1) := by decide +kernel
theorem dX2_pairFrom_64 : decode cX2_pairFrom 64 = .ok (.invokevirtual 74, 3) := by decide +kernel
theorem dX2_pairFrom_67 : decode cX2_pairFrom 67 = .ok (.iinc 2 1, 3) := by decide +kernel
theorem dX2_pairFrom_70 : decode cX2_pairFrom 70 = .ok (.goto (-52), 3) := by decide +kernel
theorem dX2_pairFrom_73 : decode cX2_pairFrom 73 = .ok (.iconst 0, 1) := by decide +kernel
theorem dX2_pairFrom_74 : decode cX2_pairFrom 74 = .ok (.ireturn, 1) := by decide +kernel
theorem dX2_join_0 : decode cX2_join 0 = .ok (.aload_n 0, 1) := by decide +kernel
theorem dX2_join_1 : decode cX2_join 1 = .ok (.getfield 18, 3) := by decide +kernel
theorem dX2_join_4 : decode cX2_join 4 = .ok (.iload_n 1, 1) := by decide +kernel
theorem dX2_join_5 : decode cX2_join 5 = .ok (.iload_n 2, 1) := by decide +kernel
theorem dX2_join_6 : decode cX2_join 6 = .ok (.iastore, 1) := by decide +kernel
theorem dX2_join_7 : decode cX2_join 7 = .ok (.aload_n 0, 1) := by decide +kernel
theorem dX2_join_8 : decode cX2_join 8 = .ok (.dup, 1) := by decide +kernel
theorem dX2_join_9 : decode cX2_join 9 = .ok (.getfield 54, 3) := by decide +kernel
theorem dX2_join_12 : decode cX2_join 12 = .ok (.iconst 1, 1) := by decide +kernel
theorem dX2_join_13 : decode cX2_join 13 = .ok (.iload_n 2, 1) := by decide +kernel
theorem dX2_join_14 : decode cX2_join 14 = .ok (.ishl, 1) := by decide +kernel
theorem dX2_join_15 : decode cX2_join 15 = .ok (.ior, 1) := by decide +kernel
theorem dX2_join_16 : decode cX2_join 16 = .ok (.putfield 54, 3) := by decide +kernel
theorem dX2_join_19 : decode cX2_join 19 = .ok (.iconst 0, 1) := by decide +kernel
theorem dX2_join_20 : decode cX2_join 20 = .ok (.istore_n 3, 1) := by decide +kernel
theorem dX2_join_21 : decode cX2_join 21 = .ok (.iload_n 3, 1) := by decide +kernel
theorem dX2_join_22 : decode cX2_join 22 = .ok (.iload_n 1, 1) := by decide +kernel
theorem dX2_join_23 : decode cX2_join 23 = .ok (.if_icmp .gt 130, 3) := by decide +kernel
theorem dX2_join_26 : decode cX2_join 26 = .ok (.aload_n 0, 1) := by decide +kernel
theorem dX2_join_27 : decode cX2_join 27 = .ok (.getfield 9, 3) := by decide +kernel
theorem dX2_join_30 : decode cX2_join 30 = .ok (.iload_n 1, 1) := by decide +kernel
theorem dX2_join_31 : decode cX2_join 31 = .ok (.iaload, 1) := by decide +kernel
theorem dX2_join_32 : decode cX2_join 32 = .ok (.aload_n 0, 1) := by decide +kernel
theorem dX2_join_33 : decode cX2_join 33 = .ok (.getfield 9, 3) := by decide +kernel
theorem dX2_join_36 : decode cX2_join 36 = .ok (.iload_n 3, 1) := by decide +kernel
theorem dX2_join_37 : decode cX2_join 37 = .ok (.iaload, 1) := by decide +kernel
theorem dX2_join_38 : decode cX2_join 38 = .ok (.iadd, 1) := by decide +kernel
theorem dX2_join_39 : decode cX2_join 39 = .ok (.istore 4, 2) := by decide +kernel
theorem dX2_join_41 : decode cX2_join 41 = .ok (.aload_n 0, 1) := by decide +kernel
theorem dX2_join_42 : decode cX2_join 42 = .ok (.getfield 15, 3) := by decide +kernel
theorem dX2_join_45 : decode cX2_join 45 = .ok (.iload_n 2, 1) := by decide +kernel
theorem dX2_join_46 : decode cX2_join 46 = .ok (.iaload, 1) := by decide +kernel
theorem dX2_join_47 : decode cX2_join 47 = .ok (.aload_n 0, 1) := by decide +kernel
theorem dX2_join_48 : decode cX2_join 48 = .ok (.getfield 15, 3) := by decide +kernel
theorem dX2_join_51 : decode cX2_join 51 = .ok (.aload_n 0, 1) := by decide +kernel
theorem dX2_join_52 : decode cX2_join 52 = .ok (.getfield 18, 3) := by decide +kernel
theorem dX2_join_55 : decode cX2_join 55 = .ok (.iload_n 3, 1) := by decide +kernel
theorem dX2_join_56 : decode cX2_join 56 = .ok (.iaload, 1) := by decide +kernel
theorem dX2_join_57 : decode cX2_join 57 = .ok (.iaload, 1) := by decide +kernel
theorem dX2_join_58 : decode cX2_join 58 = .ok (.iadd, 1) := by decide +kernel
theorem dX2_join_59 : decode cX2_join 59 = .ok (.istore 5, 2) := by decide +kernel
theorem dX2_join_61 : decode cX2_join 61 = .ok (.aload_n 0, 1) := by decide +kernel
theorem dX2_join_62 : decode cX2_join 62 = .ok (.getfield 27, 3) := by decide +kernel
theorem dX2_join_65 : decode cX2_join 65 = .ok (.iload 4, 2) := by decide +kernel
theorem dX2_join_67 : decode cX2_join 67 = .ok (.iaload, 1) := by decide +kernel
theorem dX2_join_68 : decode cX2_join 68 = .ok (.ifCond .le 15, 3) := by decide +kernel
theorem dX2_join_71 : decode cX2_join 71 = .ok (.aload_n 0, 1) := by decide +kernel
theorem dX2_join_72 : decode cX2_join 72 = .ok (.getfield 21, 3) := by decide +kernel
theorem dX2_join_75 : decode cX2_join 75 = .ok (.iload 4, 2) := by decide +kernel
theorem dX2_join_77 : decode cX2_join 77 = .ok (.iaload, 1) := by decide +kernel
theorem dX2_join_78 : decode cX2_join 78 = .ok (.iload 5, 2) := by decide +kernel
theorem dX2_join_80 : decode cX2_join 80 = .ok (.if_icmp .ne 25, 3) := by decide +kernel
theorem dX2_join_83 : decode cX2_join 83 = .ok (.aload_n 0, 1) := by decide +kernel
theorem dX2_join_84 : decode cX2_join 84 = .ok (.getfield 30, 3) := by decide +kernel
theorem dX2_join_87 : decode cX2_join 87 = .ok (.iload 5, 2) := by decide +kernel
theorem dX2_join_89 : decode cX2_join 89 = .ok (.iaload, 1) := by decide +kernel
theorem dX2_join_90 : decode cX2_join 90 = .ok (.ifCond .le 17, 3) := by decide +kernel
theorem dX2_join_93 : decode cX2_join 93 = .ok (.aload_n 0, 1) := by decide +kernel
theorem dX2_join_94 : decode cX2_join 94 = .ok (.getfield 24, 3) := by decide +kernel
theorem dX2_join_97 : decode cX2_join 97 = .ok (.iload 5, 2) := by decide +kernel
theorem dX2_join_99 : decode cX2_join 99 = .ok (.iaload, 1) := by decide +kernel
theorem dX2_join_100 : decode cX2_join 100 = .ok (.iload 4, 2) := by decide +kernel
theorem dX2_join_102 : decode cX2_join 102 = .ok (.if_icmp .eq 5, 3) := by decide +kernel
theorem dX2_join_105 : decode cX2_join 105 = .ok (.iload_n 3, 1) := by decide +kernel
theorem dX2_join_106 : decode cX2_join 106 = .ok (.ireturn, 1) := by decide +kernel
theorem dX2_join_107 : decode cX2_join 107 = .ok (.aload_n 0, 1) := by decide +kernel
theorem dX2_join_108 : decode cX2_join 108 = .ok (.getfield 21, 3) := by decide +kernel
theorem dX2_join_111 : decode cX2_join 111 = .ok (.iload 4, 2) := by decide +kernel
theorem dX2_join_113 : decode cX2_join 113 = .ok (.iload 5, 2) := by decide +kernel
theorem dX2_join_115 : decode cX2_join 115 = .ok (.iastore, 1) := by decide +kernel
theorem dX2_join_116 : decode cX2_join 116 = .ok (.aload_n 0, 1) := by decide +kernel
theorem dX2_join_117 : decode cX2_join 117 = .ok (.getfield 24, 3) := by decide +kernel
theorem dX2_join_120 : decode cX2_join 120 = .ok (.iload 5, 2) := by decide +kernel
theorem dX2_join_122 : decode cX2_join 122 = .ok (.iload 4, 2) := by decide +kernel
theorem dX2_join_124 : decode cX2_join 124 = .ok (.iastore, 1) := by decide +kernel
theorem dX2_join_125 : decode cX2_join 125 = .ok (.aload_n 0, 1) := by decide +kernel
theorem dX2_join_126 : decode cX2_join 126 = .ok (.getfield 27, 3) := by decide +kernel
theorem dX2_join_129 : decode cX2_join 129 = .ok (.iload 4, 2) := by decide +kernel
theorem dX2_join_131 : decode cX2_join 131 = .ok (.dup2, 1) := by decide +kernel
theorem dX2_join_132 : decode cX2_join 132 = .ok (.iaload, 1) := by decide +kernel
theorem dX2_join_133 : decode cX2_join 133 = .ok (.iconst 1, 1) := by decide +kernel
theorem dX2_join_134 : decode cX2_join 134 = .ok (.iadd, 1) := by decide +kernel
theorem dX2_join_135 : decode cX2_join 135 = .ok (.iastore, 1) := by decide +kernel
theorem dX2_join_136 : decode cX2_join 136 = .ok (.aload_n 0, 1) := by decide +kernel
theorem dX2_join_137 : decode cX2_join 137 = .ok (.getfield 30, 3) := by decide +kernel
theorem dX2_join_140 : decode cX2_join 140 = .ok (.iload 5, 2) := by decide +kernel
theorem dX2_join_142 : decode cX2_join 142 = .ok (.dup2, 1) := by decide +kernel
theorem dX2_join_143 : decode cX2_join 143 = .ok (.iaload, 1) := by decide +kernel
theorem dX2_join_144 : decode cX2_join 144 = .ok (.iconst 1, 1) := by decide +kernel
theorem dX2_join_145 : decode cX2_join 145 = .ok (.iadd, 1) := by decide +kernel
theorem dX2_join_146 : decode cX2_join 146 = .ok (.iastore, 1) := by decide +kernel
theorem dX2_join_147 : decode cX2_join 147 = .ok (.iinc 3 1, 3) := by decide +kernel
theorem dX2_join_150 : decode cX2_join 150 = .ok (.goto (-129), 3) := by decide +kernel
theorem dX2_join_153 : decode cX2_join 153 = .ok (.iload_n 1, 1) := by decide +kernel
theorem dX2_join_154 : decode cX2_join 154 = .ok (.iconst 1, 1) := by decide +kernel
theorem dX2_join_155 : decode cX2_join 155 = .ok (.iadd, 1) := by decide +kernel
theorem dX2_join_156 : decode cX2_join 156 = .ok (.ireturn, 1) := by decide +kernel
theorem dX2_part_0 : decode cX2_part 0 = .ok (.aload_n 0, 1) := by decide +kernel
theorem dX2_part_1 : decode cX2_part 1 = .ok (.getfield 18, 3) := by decide +kernel
theorem dX2_part_4 : decode cX2_part 4 = .ok (.iload_n 1, 1) := by decide +kernel
theorem dX2_part_5 : decode cX2_part 5 = .ok (.iaload, 1) := by decide +kernel
theorem dX2_part_6 : decode cX2_part 6 = .ok (.istore_n 3, 1) := by decide +kernel
theorem dX2_part_7 : decode cX2_part 7 = .ok (.aload_n 0, 1) := by decide +kernel
theorem dX2_part_8 : decode cX2_part 8 = .ok (.dup, 1) := by decide +kernel
theorem dX2_part_9 : decode cX2_part 9 = .ok (.getfield 54, 3) := by decide +kernel
theorem dX2_part_12 : decode cX2_part 12 = .ok (.iconst 1, 1) := by decide +kernel
theorem dX2_part_13 : decode cX2_part 13 = .ok (.iload_n 3, 1) := by decide +kernel
theorem dX2_part_14 : decode cX2_part 14 = .ok (.ishl, 1) := by decide +kernel
theorem dX2_part_15 : decode cX2_part 15 = .ok (.iconst (-1), 1) := by decide +kernel
theorem dX2_part_16 : decode cX2_part 16 = .ok (.ixor, 1) := by decide +kernel
theorem dX2_part_17 : decode cX2_part 17 = .ok (.iand, 1) := by decide +kernel
theorem dX2_part_18 : decode cX2_part 18 = .ok (.putfield 54, 3) := by decide +kernel
theorem dX2_part_21 : decode cX2_part 21 = .ok (.iconst 0, 1) := by decide +kernel
theorem dX2_part_22 : decode cX2_part 22 = .ok (.istore 4, 2) := by decide +kernel
theorem dX2_part_24 : decode cX2_part 24 = .ok (.iload 4, 2) := by decide +kernel
theorem dX2_part_26 : decode cX2_part 26 = .ok (.iload_n 2, 1) := by decide +kernel
theorem dX2_part_27 : decode cX2_part 27 = .ok (.if_icmp .ge 66, 3) := by decide +kernel
theorem dX2_part_30 : decode cX2_part 30 = .ok (.iload 4, 2) := by decide +kernel
theorem dX2_part_32 : decode cX2_part 32 = .ok (.iload_n 1, 1) := by decide +kernel
theorem dX2_part_33 : decode cX2_part 33 = .ok (.if_icmp .gt 60, 3) := by decide +kernel
theorem dX2_part_36 : decode cX2_part 36 = .ok (.aload_n 0, 1) := by decide +kernel
theorem dX2_part_37 : decode cX2_part 37 = .ok (.getfield 27, 3) := by decide +kernel
theorem dX2_part_40 : decode cX2_part 40 = .ok (.aload_n 0, 1) := by decide +kernel
theorem dX2_part_41 : decode cX2_part 41 = .ok (.getfield 9, 3) := by decide +kernel
theorem dX2_part_44 : decode cX2_part 44 = .ok (.iload_n 1, 1) := by decide +kernel
theorem dX2_part_45 : decode cX2_part 45 = .ok (.iaload, 1) := by decide +kernel
theorem dX2_part_46 : decode cX2_part 46 = .ok (.aload_n 0, 1) := by decide +kernel
theorem dX2_part_47 : decode cX2_part 47 = .ok (.getfield 9, 3) := by decide +kernel
theorem dX2_part_50 : decode cX2_part 50 = .ok (.iload 4, 2) := by decide +kernel
theorem dX2_part_52 : decode cX2_part 52 = .ok (.iaload, 1) := by decide +kernel
theorem dX2_part_53 : decode cX2_part 53 = .ok (.iadd, 1) := by decide +kernel
theorem dX2_part_54 : decode cX2_part 54 = .ok (.dup2, 1) := by decide +kernel
theorem dX2_part_55 : decode cX2_part 55 = .ok (.iaload, 1) := by decide +kernel
theorem dX2_part_56 : decode cX2_part 56 = .ok (.iconst 1, 1) := by decide +kernel
theorem dX2_part_57 : decode cX2_part 57 = .ok (.isub, 1) := by decide +kernel
theorem dX2_part_58 : decode cX2_part 58 = .ok (.iastore, 1) := by decide +kernel
theorem dX2_part_59 : decode cX2_part 59 = .ok (.aload_n 0, 1) := by decide +kernel
theorem dX2_part_60 : decode cX2_part 60 = .ok (.getfield 30, 3) := by decide +kernel
theorem dX2_part_63 : decode cX2_part 63 = .ok (.aload_n 0, 1) := by decide +kernel
theorem dX2_part_64 : decode cX2_part 64 = .ok (.getfield 15, 3) := by decide +kernel
theorem dX2_part_67 : decode cX2_part 67 = .ok (.iload_n 3, 1) := by decide +kernel
theorem dX2_part_68 : decode cX2_part 68 = .ok (.iaload, 1) := by decide +kernel
theorem dX2_part_69 : decode cX2_part 69 = .ok (.aload_n 0, 1) := by decide +kernel
theorem dX2_part_70 : decode cX2_part 70 = .ok (.getfield 15, 3) := by decide +kernel
theorem dX2_part_73 : decode cX2_part 73 = .ok (.aload_n 0, 1) := by decide +kernel
theorem dX2_part_74 : decode cX2_part 74 = .ok (.getfield 18, 3) := by decide +kernel
theorem dX2_part_77 : decode cX2_part 77 = .ok (.iload 4, 2) := by decide +kernel
theorem dX2_part_79 : decode cX2_part 79 = .ok (.iaload, 1) := by decide +kernel
theorem dX2_part_80 : decode cX2_part 80 = .ok (.iaload, 1) := by decide +kernel
theorem dX2_part_81 : decode cX2_part 81 = .ok (.iadd, 1) := by decide +kernel
theorem dX2_part_82 : decode cX2_part 82 = .ok (.dup2, 1) := by decide +kernel
theorem dX2_part_83 : decode cX2_part 83 = .ok (.iaload, 1) := by decide +kernel
theorem dX2_part_84 : decode cX2_part 84 = .ok (.iconst 1, 1) := by decide +kernel
theorem dX2_part_85 : decode cX2_part 85 = .ok (.isub, 1) := by decide +kernel
theorem dX2_part_86 : decode cX2_part 86 = .ok (.iastore, 1) := by decide +kernel
theorem dX2_part_87 : decode cX2_part 87 = .ok (.iinc 4 1, 3) := by decide +kernel
theorem dX2_part_90 : decode cX2_part 90 = .ok (.goto (-66), 3) := by decide +kernel
theorem dX2_part_93 : decode cX2_part 93 = .ok (.return_, 1) := by decide +kernel
