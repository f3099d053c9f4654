theorem dX4_init_0 : decode cX4_init 0 = .ok (.aload_n 0, 1) := by decide +kernel
theorem dX4_init_1 : decode cX4_init 1 = .ok (.invokespecial 3, 3) := by decide +kernel
theorem dX4_init_4 : decode cX4_init 4 = .ok (.return_, 1) := by decide +kernel
theorem dX4_isTold_0 : decode cX4_isTold 0 = .ok (.iload_n 0, 1) := by decide +kernel
theorem dX4_isTold_1 : decode cX4_isTold 1 = .ok (.iconst 1, 1) := by decide +kernel
theorem dX4_isTold_2 : decode cX4_isTold 2 = .ok (.if_icmp .ne 13, 3) := by decide +kernel
theorem dX4_isTold_5 : decode cX4_isTold 5 = .ok (.iload_n 1, 1) := by decide +kernel
theorem dX4_isTold_6 : decode cX4_isTold 6 = .ok (.ifCond .ne 7, 3) := by decide +kernel
theorem dX4_isTold_9 : decode cX4_isTold 9 = .ok (.iconst 1, 1) := by decide +kernel
theorem dX4_isTold_10 : decode cX4_isTold 10 = .ok (.goto 4, 3) := by decide +kernel
theorem dX4_isTold_13 : decode cX4_isTold 13 = .ok (.iconst 0, 1) := by decide +kernel
theorem dX4_isTold_14 : decode cX4_isTold 14 = .ok (.ireturn, 1) := by decide +kernel
theorem dX4_isTold_15 : decode cX4_isTold 15 = .ok (.iload_n 0, 1) := by decide +kernel
theorem dX4_isTold_16 : decode cX4_isTold 16 = .ok (.iconst 1, 1) := by decide +kernel
theorem dX4_isTold_17 : decode cX4_isTold 17 = .ok (.if_icmp .le 26, 3) := by decide +kernel
theorem dX4_isTold_20 : decode cX4_isTold 20 = .ok (.iload_n 0, 1) := by decide +kernel
theorem dX4_isTold_21 : decode cX4_isTold 21 = .ok (.bipush 8, 2) := by decide +kernel
theorem dX4_isTold_23 : decode cX4_isTold 23 = .ok (.if_icmp .gt 20, 3) := by decide +kernel
theorem dX4_isTold_26 : decode cX4_isTold 26 = .ok (.iload_n 1, 1) := by decide +kernel
theorem dX4_isTold_27 : decode cX4_isTold 27 = .ok (.iload_n 0, 1) := by decide +kernel
theorem dX4_isTold_28 : decode cX4_isTold 28 = .ok (.iconst 1, 1) := by decide +kernel
theorem dX4_isTold_29 : decode cX4_isTold 29 = .ok (.isub, 1) := by decide +kernel
theorem dX4_isTold_30 : decode cX4_isTold 30 = .ok (.if_icmp .lt 13, 3) := by decide +kernel
theorem dX4_isTold_33 : decode cX4_isTold 33 = .ok (.iload_n 1, 1) := by decide +kernel
theorem dX4_isTold_34 : decode cX4_isTold 34 = .ok (.bipush 14, 2) := by decide +kernel
theorem dX4_isTold_36 : decode cX4_isTold 36 = .ok (.if_icmp .gt 7, 3) := by decide +kernel
theorem dX4_isTold_39 : decode cX4_isTold 39 = .ok (.iconst 1, 1) := by decide +kernel
theorem dX4_isTold_40 : decode cX4_isTold 40 = .ok (.goto 4, 3) := by decide +kernel
theorem dX4_isTold_43 : decode cX4_isTold 43 = .ok (.iconst 0, 1) := by decide +kernel
theorem dX4_isTold_44 : decode cX4_isTold 44 = .ok (.ireturn, 1) := by decide +kernel
theorem dX4_fewest_0 : decode cX4_fewest 0 = .ok (.aload_n 0, 1) := by decide +kernel
theorem dX4_fewest_1 : decode cX4_fewest 1 = .ok (.getfield 11, 3) := by decide +kernel
theorem dX4_fewest_4 : decode cX4_fewest 4 = .ok (.ireturn, 1) := by decide +kernel
theorem dX4_size_0 : decode cX4_size 0 = .ok (.aload_n 0, 1) := by decide +kernel
theorem dX4_size_1 : decode cX4_size 1 = .ok (.getfield 15, 3) := by decide +kernel
theorem dX4_size_4 : decode cX4_size 4 = .ok (.ireturn, 1) := by decide +kernel
set_option maxRecDepth 20000 in
theorem ggX4_seek_X4_betweens : GoodIn wsX4_seek wsX4_betweens := goodIn_r _ [8, 2, 29, 30, 31, 32] (by decide +kernel) (by decide +kernel)
set_option maxRecDepth 20000 in
theorem gX4_seek_X4_betweens : GoodIn wsX4_seek (wsV RX4 24 RX4 yX4_betweens wsX4_betweens) := goodIn_app (goodIn_of _ (by decide +kernel)) ggX4_seek_X4_betweens
set_option maxRecDepth 20000 in
theorem ggX4_seek_X4_setWith : GoodIn wsX4_seek wsX4_setWith := goodIn_r _ [12, 2, 29, 30, 31, 32] (by decide +kernel) (by decide +kernel)
set_option maxRecDepth 20000 in
theorem gX4_seek_X4_setWith : GoodIn wsX4_seek (wsV RX4 28 RX4 yX4_setWith wsX4_setWith) := goodIn_app (goodIn_of _ (by decide +kernel)) ggX4_seek_X4_setWith
set_option maxRecDepth 20000 in
theorem ggX4_seek_J6_bitCount_0f7a4 : GoodIn wsX4_seek wsJ6_bitCount_0f7a4 := goodIn_r _ [16, 17, 18, 19] (by decide +kernel) (by decide +kernel)
set_option maxRecDepth 20000 in
theorem gX4_seek_J6_bitCount_0f7a4 : GoodIn wsX4_seek (va_wsS RX4 32 yJ6_bitCount_0f7a4 wsJ6_bitCount_0f7a4) := goodIn_app (goodIn_of _ (by decide +kernel)) ggX4_seek_J6_bitCount_0f7a4
set_option maxRecDepth 20000 in
theorem ggX4_seek_X4_sumsWithItself : GoodIn wsX4_seek wsX4_sumsWithItself := goodIn_r _ [23, 2, 13, 14, 15, 16, 17, 18, 19, 29, 30, 31, 32] (by decide +kernel) (by decide +kernel)
set_option maxRecDepth 20000 in
theorem gX4_seek_X4_sumsWithItself : GoodIn wsX4_seek (wsV RX4 37 RX4 yX4_sumsWithItself wsX4_sumsWithItself) := goodIn_app (goodIn_of _ (by decide +kernel)) ggX4_seek_X4_sumsWithItself
set_option maxRecDepth 20000 in
theorem ggX4_seek_X4_countIn : GoodIn wsX4_seek wsX4_countIn := goodIn_r _ [27, 3, 28, 29, 30, 31, 32] (by decide +kernel) (by decide +kernel)
set_option maxRecDepth 20000 in
theorem gX4_seek_X4_countIn : GoodIn wsX4_seek (wsV RX4 40 RX4 yX4_countIn wsX4_countIn) := goodIn_app (goodIn_of _ (by decide +kernel)) ggX4_seek_X4_countIn
theorem dX4_seek_0 : decode cX4_seek 0 = .ok (.iload_n 1, 1) := by decide +kernel
theorem dX4_seek_1 : decode cX4_seek 1 = .ok (.aload_n 0, 1) := by decide +kernel
theorem dX4_seek_2 : decode cX4_seek 2 = .ok (.getfield 18, 3) := by decide +kernel
theorem dX4_seek_5 : decode cX4_seek 5 = .ok (.if_icmp .ne 12, 3) := by decide +kernel
theorem dX4_seek_8 : decode cX4_seek 8 = .ok (.iload_n 2, 1) := by decide +kernel
theorem dX4_seek_9 : decode cX4_seek 9 = .ok (.aload_n 0, 1) := by decide +kernel
theorem dX4_seek_10 : decode cX4_seek 10 = .ok (.getfield 21, 3) := by decide +kernel
theorem dX4_seek_13 : decode cX4_seek 13 = .ok (.if_icmp .ne 4, 3) := by decide +kernel
theorem dX4_seek_16 : decode cX4_seek 16 = .ok (.return_, 1) := by decide +kernel
theorem dX4_seek_17 : decode cX4_seek 17 = .ok (.aload_n 0, 1) := by decide +kernel
theorem dX4_seek_18 : decode cX4_seek 18 = .ok (.iload_n 1, 1) := by decide +kernel
theorem dX4_seek_19 : decode cX4_seek 19 = .ok (.putfield 18, 3) := by decide +kernel
theorem dX4_seek_22 : decode cX4_seek 22 = .ok (.aload_n 0, 1) := by decide +kernel
theorem dX4_seek_23 : decode cX4_seek 23 = .ok (.iload_n 2, 1) := by decide +kernel
theorem dX4_seek_24 : decode cX4_seek 24 = .ok (.putfield 21, 3) := by decide +kernel
theorem dX4_seek_27 : decode cX4_seek 27 = .ok (.aload_n 0, 1) := by decide +kernel
theorem dX4_seek_28 : decode cX4_seek 28 = .ok (.iconst 0, 1) := by decide +kernel
theorem dX4_seek_29 : decode cX4_seek 29 = .ok (.putfield 15, 3) := by decide +kernel
theorem dX4_seek_32 : decode cX4_seek 32 = .ok (.iconst 0, 1) := by decide +kernel
theorem dX4_seek_33 : decode cX4_seek 33 = .ok (.istore_n 3, 1) := by decide +kernel
theorem dX4_seek_34 : decode cX4_seek 34 = .ok (.iload_n 3, 1) := by decide +kernel
theorem dX4_seek_35 : decode cX4_seek 35 = .ok (.aload_n 0, 1) := by decide +kernel
theorem dX4_seek_36 : decode cX4_seek 36 = .ok (.invokevirtual 24, 3) := by decide +kernel
theorem dX4_seek_39 : decode cX4_seek 39 = .ok (.if_icmp .ge 38, 3) := by decide +kernel
theorem dX4_seek_42 : decode cX4_seek 42 = .ok (.aload_n 0, 1) := by decide +kernel
theorem dX4_seek_43 : decode cX4_seek 43 = .ok (.iload_n 3, 1) := by decide +kernel
theorem dX4_seek_44 : decode cX4_seek 44 = .ok (.invokevirtual 28, 3) := by decide +kernel
theorem dX4_seek_47 : decode cX4_seek 47 = .ok (.istore 4, 2) := by decide +kernel
theorem dX4_seek_49 : decode cX4_seek 49 = .ok (.iload 4, 2) := by decide +kernel
theorem dX4_seek_51 : decode cX4_seek 51 = .ok (.invokestatic 32, 3) := by decide +kernel
theorem dX4_seek_54 : decode cX4_seek 54 = .ok (.aload_n 0, 1) := by decide +kernel
theorem dX4_seek_55 : decode cX4_seek 55 = .ok (.getfield 18, 3) := by decide +kernel
theorem dX4_seek_58 : decode cX4_seek 58 = .ok (.if_icmp .ne 13, 3) := by decide +kernel
theorem dX4_seek_61 : decode cX4_seek 61 = .ok (.aload_n 0, 1) := by decide +kernel
theorem dX4_seek_62 : decode cX4_seek 62 = .ok (.aload_n 0, 1) := by decide +kernel
theorem dX4_seek_63 : decode cX4_seek 63 = .ok (.iload 4, 2) := by decide +kernel
theorem dX4_seek_65 : decode cX4_seek 65 = .ok (.invokevirtual 37, 3) := by decide +kernel
theorem dX4_seek_68 : decode cX4_seek 68 = .ok (.invokevirtual 40, 3) := by decide +kernel
theorem dX4_seek_71 : decode cX4_seek 71 = .ok (.iinc 3 1, 3) := by decide +kernel
theorem dX4_seek_74 : decode cX4_seek 74 = .ok (.goto (-40), 3) := by decide +kernel
theorem dX4_seek_77 : decode cX4_seek 77 = .ok (.return_, 1) := by decide +kernel
theorem dX4_countIn_0 : decode cX4_countIn 0 = .ok (.aload_n 0, 1) := by decide +kernel
theorem dX4_countIn_1 : decode cX4_countIn 1 = .ok (.getfield 15, 3) := by decide +kernel
theorem dX4_countIn_4 : decode cX4_countIn 4 = .ok (.ifCond .eq 11, 3) := by decide +kernel
theorem dX4_countIn_7 : decode cX4_countIn 7 = .ok (.iload_n 1, 1) := by decide +kernel
theorem dX4_countIn_8 : decode cX4_countIn 8 = .ok (.aload_n 0, 1) := by decide +kernel
theorem dX4_countIn_9 : decode cX4_countIn 9 = .ok (.getfield 11, 3) := by decide +kernel
theorem dX4_countIn_12 : decode cX4_countIn 12 = .ok (.if_icmp .ge 13, 3) := by decide +kernel
theorem dX4_countIn_15 : decode cX4_countIn 15 = .ok (.aload_n 0, 1) := by decide +kernel
theorem dX4_countIn_16 : decode cX4_countIn 16 = .ok (.iload_n 1, 1) := by decide +kernel
theorem dX4_countIn_17 : decode cX4_countIn 17 = .ok (.putfield 11, 3) := by decide +kernel
theorem dX4_countIn_20 : decode cX4_countIn 20 = .ok (.aload_n 0, 1) := by decide +kernel
theorem dX4_countIn_21 : decode cX4_countIn 21 = .ok (.iconst 0, 1) := by decide +kernel
theorem dX4_countIn_22 : decode cX4_countIn 22 = .ok (.putfield 15, 3) := by decide +kernel
theorem dX4_countIn_25 : decode cX4_countIn 25 = .ok (.iload_n 1, 1) := by decide +kernel
theorem dX4_countIn_26 : decode cX4_countIn 26 = .ok (.aload_n 0, 1) := by decide +kernel
theorem dX4_countIn_27 : decode cX4_countIn 27 = .ok (.getfield 11, 3) := by decide +kernel
theorem dX4_countIn_30 : decode cX4_countIn 30 = .ok (.if_icmp .ne 13, 3) := by decide +kernel
theorem dX4_countIn_33 : decode cX4_countIn 33 = .ok (.aload_n 0, 1) := by decide +kernel
theorem dX4_countIn_34 : decode cX4_countIn 34 = .ok (.dup, 1) := by decide +kernel
theorem dX4_countIn_35 : decode cX4_countIn 35 = .ok (.getfield 15, 3) := by decide +kernel
theorem dX4_countIn_38 : decode cX4_countIn 38 = .ok (.iconst 1, 1) := by decide +kernel
theorem dX4_countIn_39 : decode cX4_countIn 39 = .ok (.iadd, 1) := by decide +kernel
theorem dX4_countIn_40 : decode cX4_countIn 40 = .ok (.putfield 15, 3) := by decide +kernel
theorem dX4_countIn_43 : decode cX4_countIn 43 = .ok (.return_, 1) := by decide +kernel
set_option maxRecDepth 20000 in
theorem ggX4_setAt_X4_betweens : GoodIn wsX4_setAt wsX4_betweens := goodIn_r _ [8, 9, 25, 26, 27, 28] (by decide +kernel) (by decide +kernel)
set_option maxRecDepth 20000 in
theorem gX4_setAt_X4_betweens : GoodIn wsX4_setAt (wsV RX4 24 RX4 yX4_betweens wsX4_betweens) := goodIn_app (goodIn_of _ (by decide +kernel)) ggX4_setAt_X4_betweens
set_option maxRecDepth 20000 in
theorem ggX4_setAt_X4_setWith : GoodIn wsX4_setAt wsX4_setWith := goodIn_r _ [13, 9, 25, 26, 27, 28] (by decide +kernel) (by decide +kernel)
set_option maxRecDepth 20000 in
theorem gX4_setAt_X4_setWith : GoodIn wsX4_setAt (wsV RX4 28 RX4 yX4_setWith wsX4_setWith) := goodIn_app (goodIn_of _ (by decide +kernel)) ggX4_setAt_X4_setWith
set_option maxRecDepth 20000 in
theorem ggX4_setAt_J6_bitCount_0f7a4 : GoodIn wsX4_setAt wsJ6_bitCount_0f7a4 := goodIn_r _ [17, 18, 19, 20] (by decide +kernel) (by decide +kernel)
set_option maxRecDepth 20000 in
theorem gX4_setAt_J6_bitCount_0f7a4 : GoodIn wsX4_setAt (va_wsS RX4 32 yJ6_bitCount_0f7a4 wsJ6_bitCount_0f7a4) := goodIn_app (goodIn_of _ (by decide +kernel)) ggX4_setAt_J6_bitCount_0f7a4
set_option maxRecDepth 20000 in
theorem ggX4_setAt_X4_sumsWithItself : GoodIn wsX4_setAt wsX4_sumsWithItself := goodIn_r _ [24, 9, 14, 15, 16, 17, 18, 19, 20, 25, 26, 27, 28] (by decide +kernel) (by decide +kernel)
set_option maxRecDepth 20000 in
theorem gX4_setAt_X4_sumsWithItself : GoodIn wsX4_setAt (wsV RX4 37 RX4 yX4_sumsWithItself wsX4_sumsWithItself) := goodIn_app (goodIn_of _ (by decide +kernel)) ggX4_setAt_X4_sumsWithItself
theorem dX4_setAt_0 : decode cX4_setAt 0 = .ok (.iload_n 1, 1) := by decide +kernel
theorem dX4_setAt_1 : decode cX4_setAt 1 = .ok (.ifCond .lt 11, 3) := by decide +kernel
theorem dX4_setAt_4 : decode cX4_setAt 4 = .ok (.iload_n 1, 1) := by decide +kernel
theorem dX4_setAt_5 : decode cX4_setAt 5 = .ok (.aload_n 0, 1) := by decide +kernel
theorem dX4_setAt_6 : decode cX4_setAt 6 = .ok (.getfield 15, 3) := by decide +kernel
theorem dX4_setAt_9 : decode cX4_setAt 9 = .ok (.if_icmp .lt 6, 3) := by decide +kernel
theorem dX4_setAt_12 : decode cX4_setAt 12 = .ok (.bipush (-4), 2) := by decide +kernel
theorem dX4_setAt_14 : decode cX4_setAt 14 = .ok (.ireturn, 1) := by decide +kernel
theorem dX4_setAt_15 : decode cX4_setAt 15 = .ok (.iconst 0, 1) := by decide +kernel
theorem dX4_setAt_16 : decode cX4_setAt 16 = .ok (.istore_n 2, 1) := by decide +kernel
theorem dX4_setAt_17 : decode cX4_setAt 17 = .ok (.iconst 0, 1) := by decide +kernel
theorem dX4_setAt_18 : decode cX4_setAt 18 = .ok (.istore_n 3, 1) := by decide +kernel
theorem dX4_setAt_19 : decode cX4_setAt 19 = .ok (.iload_n 3, 1) := by decide +kernel
theorem dX4_setAt_20 : decode cX4_setAt 20 = .ok (.aload_n 0, 1) := by decide +kernel
theorem dX4_setAt_21 : decode cX4_setAt 21 = .ok (.invokevirtual 24, 3) := by decide +kernel
theorem dX4_setAt_24 : decode cX4_setAt 24 = .ok (.if_icmp .ge 52, 3) := by decide +kernel
theorem dX4_setAt_27 : decode cX4_setAt 27 = .ok (.aload_n 0, 1) := by decide +kernel
theorem dX4_setAt_28 : decode cX4_setAt 28 = .ok (.iload_n 3, 1) := by decide +kernel
theorem dX4_setAt_29 : decode cX4_setAt 29 = .ok (.invokevirtual 28, 3) := by decide +kernel
theorem dX4_setAt_32 : decode cX4_setAt 32 = .ok (.istore 4, 2) := by decide +kernel
theorem dX4_setAt_34 : decode cX4_setAt 34 = .ok (.iload 4, 2) := by decide +kernel
theorem dX4_setAt_36 : decode cX4_setAt 36 = .ok (.invokestatic 32, 3) := by decide +kernel
theorem dX4_setAt_39 : decode cX4_setAt 39 = .ok (.aload_n 0, 1) := by decide +kernel
theorem dX4_setAt_40 : decode cX4_setAt 40 = .ok (.getfield 18, 3) := by decide +kernel
theorem dX4_setAt_43 : decode cX4_setAt 43 = .ok (.if_icmp .ne 27, 3) := by decide +kernel
theorem dX4_setAt_46 : decode cX4_setAt 46 = .ok (.aload_n 0, 1) := by decide +kernel
theorem dX4_setAt_47 : decode cX4_setAt 47 = .ok (.iload 4, 2) := by decide +kernel
theorem dX4_setAt_49 : decode cX4_setAt 49 = .ok (.invokevirtual 37, 3) := by decide +kernel
theorem dX4_setAt_52 : decode cX4_setAt 52 = .ok (.aload_n 0, 1) := by decide +kernel
theorem dX4_setAt_53 : decode cX4_setAt 53 = .ok (.getfield 11, 3) := by decide +kernel
theorem dX4_setAt_56 : decode cX4_setAt 56 = .ok (.if_icmp .ne 14, 3) := by decide +kernel
theorem dX4_setAt_59 : decode cX4_setAt 59 = .ok (.iload_n 2, 1) := by decide +kernel
theorem dX4_setAt_60 : decode cX4_setAt 60 = .ok (.iload_n 1, 1) := by decide +kernel
theorem dX4_setAt_61 : decode cX4_setAt 61 = .ok (.if_icmp .ne 6, 3) := by decide +kernel
theorem dX4_setAt_64 : decode cX4_setAt 64 = .ok (.iload 4, 2) := by decide +kernel
theorem dX4_setAt_66 : decode cX4_setAt 66 = .ok (.ireturn, 1) := by decide +kernel
theorem dX4_setAt_67 : decode cX4_setAt 67 = .ok (.iinc 2 1, 3) := by decide +kernel
theorem dX4_setAt_70 : decode cX4_setAt 70 = .ok (.iinc 3 1, 3) := by decide +kernel
theorem dX4_setAt_73 : decode cX4_setAt 73 = .ok (.goto (-54), 3) := by decide +kernel
theorem dX4_setAt_76 : decode cX4_setAt 76 = .ok (.bipush (-4), 2) := by decide +kernel
theorem dX4_setAt_78 : decode cX4_setAt 78 = .ok (.ireturn, 1) := by decide +kernel
theorem dX4_betweens_0 : decode cX4_betweens 0 = .ok (.aload_n 0, 1) := by decide +kernel
theorem dX4_betweens_1 : decode cX4_betweens 1 = .ok (.getfield 21, 3) := by decide +kernel
theorem dX4_betweens_4 : decode cX4_betweens 4 = .ok (.iconst 1, 1) := by decide +kernel
theorem dX4_betweens_5 : decode cX4_betweens 5 = .ok (.if_icmp .lt 12, 3) := by decide +kernel
theorem dX4_betweens_8 : decode cX4_betweens 8 = .ok (.aload_n 0, 1) := by decide +kernel
theorem dX4_betweens_9 : decode cX4_betweens 9 = .ok (.getfield 21, 3) := by decide +kernel
theorem dX4_betweens_12 : decode cX4_betweens 12 = .ok (.bipush 14, 2) := by decide +kernel
theorem dX4_betweens_14 : decode cX4_betweens 14 = .ok (.if_icmp .le 7, 3) := by decide +kernel
theorem dX4_betweens_17 : decode cX4_betweens 17 = .ok (.iconst 1, 1) := by decide +kernel
theorem dX4_betweens_18 : decode cX4_betweens 18 = .ok (.goto 11, 3) := by decide +kernel
theorem dX4_betweens_21 : decode cX4_betweens 21 = .ok (.iconst 1, 1) := by decide +kernel
theorem dX4_betweens_22 : decode cX4_betweens 22 = .ok (.aload_n 0, 1) := by decide +kernel
theorem dX4_betweens_23 : decode cX4_betweens 23 = .ok (.getfield 21, 3) := by decide +kernel
theorem dX4_betweens_26 : decode cX4_betweens 26 = .ok (.iconst 1, 1) := by decide +kernel
theorem dX4_betweens_27 : decode cX4_betweens 27 = .ok (.isub, 1) := by decide +kernel
theorem dX4_betweens_28 : decode cX4_betweens 28 = .ok (.ishl, 1) := by decide +kernel
theorem dX4_betweens_29 : decode cX4_betweens 29 = .ok (.ireturn, 1) := by decide +kernel
theorem dX4_setWith_0 : decode cX4_setWith 0 = .ok (.iconst 1, 1) := by decide +kernel
theorem dX4_setWith_1 : decode cX4_setWith 1 = .ok (.iload_n 1, 1) := by decide +kernel
theorem dX4_setWith_2 : decode cX4_setWith 2 = .ok (.iconst 1, 1) := by decide +kernel
theorem dX4_setWith_3 : decode cX4_setWith 3 = .ok (.ishl, 1) := by decide +kernel
theorem dX4_setWith_4 : decode cX4_setWith 4 = .ok (.ior, 1) := by decide +kernel
theorem dX4_setWith_5 : decode cX4_setWith 5 = .ok (.iconst 1, 1) := by decide +kernel
theorem dX4_setWith_6 : decode cX4_setWith 6 = .ok (.aload_n 0, 1) := by decide +kernel
theorem dX4_setWith_7 : decode cX4_setWith 7 = .ok (.getfield 21, 3) := by decide +kernel
theorem dX4_setWith_10 : decode cX4_setWith 10 = .ok (.ishl, 1) := by decide +kernel
theorem dX4_setWith_11 : decode cX4_setWith 11 = .ok (.ior, 1) := by decide +kernel
theorem dX4_setWith_12 : decode cX4_setWith 12 = .ok (.ireturn, 1) := by decide +kernel
set_option maxRecDepth 20000 in
theorem ggX4_sumsWithItself_J6_bitCount_0f7a4 : GoodIn wsX4_sumsWithItself wsJ6_bitCount_0f7a4 := goodIn_r _ [5, 6, 7, 8] (by decide +kernel) (by decide +kernel)
set_option maxRecDepth 20000 in
theorem gX4_sumsWithItself_J6_bitCount_0f7a4 : GoodIn wsX4_sumsWithItself (va_wsS RX4 32 yJ6_bitCount_0f7a4 wsJ6_bitCount_0f7a4) := goodIn_app (goodIn_of _ (by decide +kernel)) ggX4_sumsWithItself_J6_bitCount_0f7a4
theorem dX4_sumsWithItself_0 : decode cX4_sumsWithItself 0 = .ok (.iconst 0, 1) := by decide +kernel
theorem dX4_sumsWithItself_1 : decode cX4_sumsWithItself 1 = .ok (.istore_n 2, 1) := by decide +kernel
theorem dX4_sumsWithItself_2 : decode cX4_sumsWithItself 2 = .ok (.iconst 0, 1) := by decide +kernel
theorem dX4_sumsWithItself_3 : decode cX4_sumsWithItself 3 = .ok (.istore_n 3, 1) := by decide +kernel
theorem dX4_sumsWithItself_4 : decode cX4_sumsWithItself 4 = .ok (.iload_n 3, 1) := by decide +kernel
theorem dX4_sumsWithItself_5 : decode cX4_sumsWithItself 5 = .ok (.aload_n 0, 1) := by decide +kernel
theorem dX4_sumsWithItself_6 : decode cX4_sumsWithItself 6 = .ok (.getfield 21, 3) := by decide +kernel
theorem dX4_sumsWithItself_9 : decode cX4_sumsWithItself 9 = .ok (.if_icmp .gt 23, 3) := by decide +kernel
theorem dX4_sumsWithItself_12 : decode cX4_sumsWithItself 12 = .ok (.iload_n 1, 1) := by decide +kernel
theorem dX4_sumsWithItself_13 : decode cX4_sumsWithItself 13 = .ok (.iload_n 3, 1) := by decide +kernel
theorem dX4_sumsWithItself_14 : decode cX4_sumsWithItself 14 = .ok (.iushr, 1) := by decide +kernel
theorem dX4_sumsWithItself_15 : decode cX4_sumsWithItself 15 = .ok (.iconst 1, 1) := by decide +kernel
theorem dX4_sumsWithItself_16 : decode cX4_sumsWithItself 16 = .ok (.iand, 1) := by decide +kernel
theorem dX4_sumsWithItself_17 : decode cX4_sumsWithItself 17 = .ok (.ifCond .eq 9, 3) := by decide +kernel
theorem dX4_sumsWithItself_20 : decode cX4_sumsWithItself 20 = .ok (.iload_n 2, 1) := by decide +kernel
theorem dX4_sumsWithItself_21 : decode cX4_sumsWithItself 21 = .ok (.iload_n 1, 1) := by decide +kernel
theorem dX4_sumsWithItself_22 : decode cX4_sumsWithItself 22 = .ok (.iload_n 3, 1) := by decide +kernel
theorem dX4_sumsWithItself_23 : decode cX4_sumsWithItself 23 = .ok (.ishl, 1) := by decide +kernel
theorem dX4_sumsWithItself_24 : decode cX4_sumsWithItself 24 = .ok (.ior, 1) := by decide +kernel
theorem dX4_sumsWithItself_25 : decode cX4_sumsWithItself 25 = .ok (.istore_n 2, 1) := by decide +kernel
theorem dX4_sumsWithItself_26 : decode cX4_sumsWithItself 26 = .ok (.iinc 3 1, 3) := by decide +kernel
theorem dX4_sumsWithItself_29 : decode cX4_sumsWithItself 29 = .ok (.goto (-25), 3) := by decide +kernel
theorem dX4_sumsWithItself_32 : decode cX4_sumsWithItself 32 = .ok (.iload_n 2, 1) := by decide +kernel
theorem dX4_sumsWithItself_33 : decode cX4_sumsWithItself 33 = .ok (.invokestatic 32, 3) := by decide +kernel
theorem dX4_sumsWithItself_36 : decode cX4_sumsWithItself 36 = .ok (.ireturn, 1) := by decide +kernel
