theorem dX0_init_0 : decode cX0_init 0 = .ok (.aload_n 0, 1) := by decide +kernel
theorem dX0_init_1 : decode cX0_init 1 = .ok (.invokespecial 3, 3) := by decide +kernel
theorem dX0_init_4 : decode cX0_init 4 = .ok (.aload_n 0, 1) := by decide +kernel
theorem dX0_init_5 : decode cX0_init 5 = .ok (.bipush 10, 2) := by decide +kernel
theorem dX0_init_7 : decode cX0_init 7 = .ok (.newarray .int, 2) := by decide +kernel
theorem dX0_init_9 : decode cX0_init 9 = .ok (.putfield 11, 3) := by decide +kernel
theorem dX0_init_12 : decode cX0_init 12 = .ok (.return_, 1) := by decide +kernel
theorem dX0_answer_0 : decode cX0_answer 0 = .ok (.iload_n 1, 1) := by decide +kernel
theorem dX0_answer_1 : decode cX0_answer 1 = .ok (.tableswitch 51 0 3 #[31, 36, 41, 46], 31) := by decide +kernel
theorem dX0_answer_32 : decode cX0_answer 32 = .ok (.aload_n 0, 1) := by decide +kernel
theorem dX0_answer_33 : decode cX0_answer 33 = .ok (.getfield 15, 3) := by decide +kernel
theorem dX0_answer_36 : decode cX0_answer 36 = .ok (.ireturn, 1) := by decide +kernel
theorem dX0_answer_37 : decode cX0_answer 37 = .ok (.aload_n 0, 1) := by decide +kernel
theorem dX0_answer_38 : decode cX0_answer 38 = .ok (.getfield 19, 3) := by decide +kernel
theorem dX0_answer_41 : decode cX0_answer 41 = .ok (.ireturn, 1) := by decide +kernel
theorem dX0_answer_42 : decode cX0_answer 42 = .ok (.aload_n 0, 1) := by decide +kernel
theorem dX0_answer_43 : decode cX0_answer 43 = .ok (.getfield 22, 3) := by decide +kernel
theorem dX0_answer_46 : decode cX0_answer 46 = .ok (.ireturn, 1) := by decide +kernel
theorem dX0_answer_47 : decode cX0_answer 47 = .ok (.aload_n 0, 1) := by decide +kernel
theorem dX0_answer_48 : decode cX0_answer 48 = .ok (.getfield 25, 3) := by decide +kernel
theorem dX0_answer_51 : decode cX0_answer 51 = .ok (.ireturn, 1) := by decide +kernel
theorem dX0_answer_52 : decode cX0_answer 52 = .ok (.aload_n 0, 1) := by decide +kernel
theorem dX0_answer_53 : decode cX0_answer 53 = .ok (.getfield 28, 3) := by decide +kernel
theorem dX0_answer_56 : decode cX0_answer 56 = .ok (.ireturn, 1) := by decide +kernel
set_option maxRecDepth 20000 in
theorem ggX0_seek_X7_leastOf : GoodIn wsX0_seek wsX7_leastOf := goodIn_r _ [13, 14, 15, 16, 17, 18, 19, 20, 21, 22] (by decide +kernel) (by decide +kernel)
set_option maxRecDepth 20000 in
theorem gX0_seek_X7_leastOf_n39 : GoodIn wsX0_seek (wsX7_leastOf) := ggX0_seek_X7_leastOf
set_option maxRecDepth 20000 in
theorem ggX0_seek_X7_greatestOf : GoodIn wsX0_seek wsX7_greatestOf := goodIn_r _ [24, 25, 26, 16, 27, 28, 29, 20, 30, 22] (by decide +kernel) (by decide +kernel)
set_option maxRecDepth 20000 in
theorem gX0_seek_X7_greatestOf_n46 : GoodIn wsX0_seek (wsX7_greatestOf) := ggX0_seek_X7_greatestOf
set_option maxRecDepth 20000 in
theorem ggX0_seek_J13_bitCount_95d88 : GoodIn wsX0_seek wsJ13_bitCount_95d88 := goodIn_r _ [33, 34, 35, 36] (by decide +kernel) (by decide +kernel)
set_option maxRecDepth 20000 in
theorem gX0_seek_J13_bitCount_95d88 : GoodIn wsX0_seek (va_wsS RX0 55 yJ13_bitCount_95d88 wsJ13_bitCount_95d88) := goodIn_app (goodIn_of _ (by decide +kernel)) ggX0_seek_J13_bitCount_95d88
set_option maxRecDepth 20000 in
theorem ggX0_seek_X0_seekArea : GoodIn wsX0_seek wsX0_seekArea := goodIn_r _ [41, 6, 42, 43, 44, 40, 45, 46, 47, 48, 49, 50, 51, 52, 53, 54, 55, 56, 57, 58, 5, 59, 60, 61, 62, 4, 63, 64, 65, 66, 67, 12, 68, 69, 70, 71, 72, 73, 74, 75, 76, 77, 78, 79] (by decide +kernel) (by decide +kernel)
set_option maxRecDepth 20000 in
theorem gX0_seek_X0_seekArea : GoodIn wsX0_seek (wsV RX0 66 RX0 yX0_seekArea wsX0_seekArea) := goodIn_app (goodIn_of _ (by decide +kernel)) ggX0_seek_X0_seekArea
theorem dX0_seek_0 : decode cX0_seek 0 = .ok (.lload_n 1, 1) := by decide +kernel
theorem dX0_seek_1 : decode cX0_seek 1 = .ok (.aload_n 0, 1) := by decide +kernel
theorem dX0_seek_2 : decode cX0_seek 2 = .ok (.getfield 31, 3) := by decide +kernel
theorem dX0_seek_5 : decode cX0_seek 5 = .ok (.lcmp, 1) := by decide +kernel
theorem dX0_seek_6 : decode cX0_seek 6 = .ok (.ifCond .ne 8, 3) := by decide +kernel
theorem dX0_seek_9 : decode cX0_seek 9 = .ok (.aload_n 0, 1) := by decide +kernel
theorem dX0_seek_10 : decode cX0_seek 10 = .ok (.getfield 35, 3) := by decide +kernel
theorem dX0_seek_13 : decode cX0_seek 13 = .ok (.ireturn, 1) := by decide +kernel
theorem dX0_seek_14 : decode cX0_seek 14 = .ok (.aload_n 0, 1) := by decide +kernel
theorem dX0_seek_15 : decode cX0_seek 15 = .ok (.lload_n 1, 1) := by decide +kernel
theorem dX0_seek_16 : decode cX0_seek 16 = .ok (.putfield 31, 3) := by decide +kernel
theorem dX0_seek_19 : decode cX0_seek 19 = .ok (.aload_n 0, 1) := by decide +kernel
theorem dX0_seek_20 : decode cX0_seek 20 = .ok (.lload_n 1, 1) := by decide +kernel
theorem dX0_seek_21 : decode cX0_seek 21 = .ok (.invokestatic 39, 3) := by decide +kernel
theorem dX0_seek_24 : decode cX0_seek 24 = .ok (.putfield 15, 3) := by decide +kernel
theorem dX0_seek_27 : decode cX0_seek 27 = .ok (.aload_n 0, 1) := by decide +kernel
theorem dX0_seek_28 : decode cX0_seek 28 = .ok (.lload_n 1, 1) := by decide +kernel
theorem dX0_seek_29 : decode cX0_seek 29 = .ok (.aload_n 0, 1) := by decide +kernel
theorem dX0_seek_30 : decode cX0_seek 30 = .ok (.getfield 15, 3) := by decide +kernel
theorem dX0_seek_33 : decode cX0_seek 33 = .ok (.lushr, 1) := by decide +kernel
theorem dX0_seek_34 : decode cX0_seek 34 = .ok (.putfield 43, 3) := by decide +kernel
theorem dX0_seek_37 : decode cX0_seek 37 = .ok (.aload_n 0, 1) := by decide +kernel
theorem dX0_seek_38 : decode cX0_seek 38 = .ok (.lload_n 1, 1) := by decide +kernel
theorem dX0_seek_39 : decode cX0_seek 39 = .ok (.invokestatic 46, 3) := by decide +kernel
theorem dX0_seek_42 : decode cX0_seek 42 = .ok (.aload_n 0, 1) := by decide +kernel
theorem dX0_seek_43 : decode cX0_seek 43 = .ok (.getfield 15, 3) := by decide +kernel
theorem dX0_seek_46 : decode cX0_seek 46 = .ok (.isub, 1) := by decide +kernel
theorem dX0_seek_47 : decode cX0_seek 47 = .ok (.putfield 49, 3) := by decide +kernel
theorem dX0_seek_50 : decode cX0_seek 50 = .ok (.aload_n 0, 1) := by decide +kernel
theorem dX0_seek_51 : decode cX0_seek 51 = .ok (.bipush 80, 2) := by decide +kernel
theorem dX0_seek_53 : decode cX0_seek 53 = .ok (.aload_n 0, 1) := by decide +kernel
theorem dX0_seek_54 : decode cX0_seek 54 = .ok (.getfield 15, 3) := by decide +kernel
theorem dX0_seek_57 : decode cX0_seek 57 = .ok (.isub, 1) := by decide +kernel
theorem dX0_seek_58 : decode cX0_seek 58 = .ok (.putfield 52, 3) := by decide +kernel
theorem dX0_seek_61 : decode cX0_seek 61 = .ok (.aload_n 0, 1) := by decide +kernel
theorem dX0_seek_62 : decode cX0_seek 62 = .ok (.iconst 0, 1) := by decide +kernel
theorem dX0_seek_63 : decode cX0_seek 63 = .ok (.putfield 35, 3) := by decide +kernel
theorem dX0_seek_66 : decode cX0_seek 66 = .ok (.lload_n 1, 1) := by decide +kernel
theorem dX0_seek_67 : decode cX0_seek 67 = .ok (.invokestatic 55, 3) := by decide +kernel
theorem dX0_seek_70 : decode cX0_seek 70 = .ok (.istore_n 3, 1) := by decide +kernel
theorem dX0_seek_71 : decode cX0_seek 71 = .ok (.iconst 4, 1) := by decide +kernel
theorem dX0_seek_72 : decode cX0_seek 72 = .ok (.iload_n 3, 1) := by decide +kernel
theorem dX0_seek_73 : decode cX0_seek 73 = .ok (.invokestatic 60, 3) := by decide +kernel
theorem dX0_seek_76 : decode cX0_seek 76 = .ok (.istore 4, 2) := by decide +kernel
theorem dX0_seek_78 : decode cX0_seek 78 = .ok (.iload 4, 2) := by decide +kernel
theorem dX0_seek_80 : decode cX0_seek 80 = .ok (.bipush 81, 2) := by decide +kernel
theorem dX0_seek_82 : decode cX0_seek 82 = .ok (.if_icmp .gt 26, 3) := by decide +kernel
theorem dX0_seek_85 : decode cX0_seek 85 = .ok (.aload_n 0, 1) := by decide +kernel
theorem dX0_seek_86 : decode cX0_seek 86 = .ok (.getfield 35, 3) := by decide +kernel
theorem dX0_seek_89 : decode cX0_seek 89 = .ok (.ifCond .ne 19, 3) := by decide +kernel
theorem dX0_seek_92 : decode cX0_seek 92 = .ok (.aload_n 0, 1) := by decide +kernel
theorem dX0_seek_93 : decode cX0_seek 93 = .ok (.aload_n 0, 1) := by decide +kernel
theorem dX0_seek_94 : decode cX0_seek 94 = .ok (.iload 4, 2) := by decide +kernel
theorem dX0_seek_96 : decode cX0_seek 96 = .ok (.invokevirtual 66, 3) := by decide +kernel
theorem dX0_seek_99 : decode cX0_seek 99 = .ok (.putfield 35, 3) := by decide +kernel
theorem dX0_seek_102 : decode cX0_seek 102 = .ok (.iinc 4 1, 3) := by decide +kernel
theorem dX0_seek_105 : decode cX0_seek 105 = .ok (.goto (-27), 3) := by decide +kernel
theorem dX0_seek_108 : decode cX0_seek 108 = .ok (.aload_n 0, 1) := by decide +kernel
theorem dX0_seek_109 : decode cX0_seek 109 = .ok (.getfield 35, 3) := by decide +kernel
theorem dX0_seek_112 : decode cX0_seek 112 = .ok (.ireturn, 1) := by decide +kernel
set_option maxRecDepth 20000 in
theorem ggX0_seekArea_X0_listFactors : GoodIn wsX0_seekArea wsX0_listFactors := goodIn_r _ [6, 7, 33, 34, 35, 36, 37, 38, 39, 40, 41, 42, 43] (by decide +kernel) (by decide +kernel)
set_option maxRecDepth 20000 in
theorem gX0_seekArea_X0_listFactors : GoodIn wsX0_seekArea (wsV RX0 70 RX0 yX0_listFactors wsX0_listFactors) := goodIn_app (goodIn_of _ (by decide +kernel)) ggX0_seekArea_X0_listFactors
set_option maxRecDepth 20000 in
theorem ggX0_seekArea_X0_seekLengths : GoodIn wsX0_seekArea wsX0_seekLengths := goodIn_r _ [11, 7, 12, 13, 14, 15, 16, 17, 18, 5, 19, 20, 1, 21, 22, 23, 24, 25, 26, 27, 28, 29, 30, 31, 32, 33, 34, 35, 36, 37, 38, 39, 40, 41, 42, 43] (by decide +kernel) (by decide +kernel)
set_option maxRecDepth 20000 in
theorem gX0_seekArea_X0_seekLengths : GoodIn wsX0_seekArea (wsV RX0 74 RX0 yX0_seekLengths wsX0_seekLengths) := goodIn_app (goodIn_of _ (by decide +kernel)) ggX0_seekArea_X0_seekLengths
theorem dX0_seekArea_0 : decode cX0_seekArea 0 = .ok (.aload_n 0, 1) := by decide +kernel
theorem dX0_seekArea_1 : decode cX0_seekArea 1 = .ok (.iload_n 1, 1) := by decide +kernel
theorem dX0_seekArea_2 : decode cX0_seekArea 2 = .ok (.invokevirtual 70, 3) := by decide +kernel
theorem dX0_seekArea_5 : decode cX0_seekArea 5 = .ok (.istore_n 2, 1) := by decide +kernel
theorem dX0_seekArea_6 : decode cX0_seekArea 6 = .ok (.iload_n 2, 1) := by decide +kernel
theorem dX0_seekArea_7 : decode cX0_seekArea 7 = .ok (.ifCond .ne 5, 3) := by decide +kernel
theorem dX0_seekArea_10 : decode cX0_seekArea 10 = .ok (.iconst 0, 1) := by decide +kernel
theorem dX0_seekArea_11 : decode cX0_seekArea 11 = .ok (.ireturn, 1) := by decide +kernel
theorem dX0_seekArea_12 : decode cX0_seekArea 12 = .ok (.iconst 1, 1) := by decide +kernel
theorem dX0_seekArea_13 : decode cX0_seekArea 13 = .ok (.istore_n 3, 1) := by decide +kernel
theorem dX0_seekArea_14 : decode cX0_seekArea 14 = .ok (.iload_n 3, 1) := by decide +kernel
theorem dX0_seekArea_15 : decode cX0_seekArea 15 = .ok (.aload_n 0, 1) := by decide +kernel
theorem dX0_seekArea_16 : decode cX0_seekArea 16 = .ok (.getfield 52, 3) := by decide +kernel
theorem dX0_seekArea_19 : decode cX0_seekArea 19 = .ok (.if_icmp .ge 44, 3) := by decide +kernel
theorem dX0_seekArea_22 : decode cX0_seekArea 22 = .ok (.iload_n 3, 1) := by decide +kernel
theorem dX0_seekArea_23 : decode cX0_seekArea 23 = .ok (.iconst 1, 1) := by decide +kernel
theorem dX0_seekArea_24 : decode cX0_seekArea 24 = .ok (.iadd, 1) := by decide +kernel
theorem dX0_seekArea_25 : decode cX0_seekArea 25 = .ok (.istore 4, 2) := by decide +kernel
theorem dX0_seekArea_27 : decode cX0_seekArea 27 = .ok (.iload_n 3, 1) := by decide +kernel
theorem dX0_seekArea_28 : decode cX0_seekArea 28 = .ok (.iload 4, 2) := by decide +kernel
theorem dX0_seekArea_30 : decode cX0_seekArea 30 = .ok (.iadd, 1) := by decide +kernel
theorem dX0_seekArea_31 : decode cX0_seekArea 31 = .ok (.aload_n 0, 1) := by decide +kernel
theorem dX0_seekArea_32 : decode cX0_seekArea 32 = .ok (.getfield 52, 3) := by decide +kernel
theorem dX0_seekArea_35 : decode cX0_seekArea 35 = .ok (.if_icmp .gt 22, 3) := by decide +kernel
theorem dX0_seekArea_38 : decode cX0_seekArea 38 = .ok (.aload_n 0, 1) := by decide +kernel
theorem dX0_seekArea_39 : decode cX0_seekArea 39 = .ok (.iload_n 3, 1) := by decide +kernel
theorem dX0_seekArea_40 : decode cX0_seekArea 40 = .ok (.iload 4, 2) := by decide +kernel
theorem dX0_seekArea_42 : decode cX0_seekArea 42 = .ok (.iload_n 2, 1) := by decide +kernel
theorem dX0_seekArea_43 : decode cX0_seekArea 43 = .ok (.invokevirtual 74, 3) := by decide +kernel
theorem dX0_seekArea_46 : decode cX0_seekArea 46 = .ok (.ifCond .eq 5, 3) := by decide +kernel
theorem dX0_seekArea_49 : decode cX0_seekArea 49 = .ok (.iconst 1, 1) := by decide +kernel
theorem dX0_seekArea_50 : decode cX0_seekArea 50 = .ok (.ireturn, 1) := by decide +kernel
theorem dX0_seekArea_51 : decode cX0_seekArea 51 = .ok (.iinc 4 1, 3) := by decide +kernel
theorem dX0_seekArea_54 : decode cX0_seekArea 54 = .ok (.goto (-27), 3) := by decide +kernel
theorem dX0_seekArea_57 : decode cX0_seekArea 57 = .ok (.iinc 3 1, 3) := by decide +kernel
theorem dX0_seekArea_60 : decode cX0_seekArea 60 = .ok (.goto (-46), 3) := by decide +kernel
theorem dX0_seekArea_63 : decode cX0_seekArea 63 = .ok (.iconst 0, 1) := by decide +kernel
theorem dX0_seekArea_64 : decode cX0_seekArea 64 = .ok (.ireturn, 1) := by decide +kernel
theorem dX0_listFactors_0 : decode cX0_listFactors 0 = .ok (.iconst 0, 1) := by decide +kernel
theorem dX0_listFactors_1 : decode cX0_listFactors 1 = .ok (.istore_n 2, 1) := by decide +kernel
theorem dX0_listFactors_2 : decode cX0_listFactors 2 = .ok (.iconst 2, 1) := by decide +kernel
theorem dX0_listFactors_3 : decode cX0_listFactors 3 = .ok (.istore_n 3, 1) := by decide +kernel
theorem dX0_listFactors_4 : decode cX0_listFactors 4 = .ok (.iconst 2, 1) := by decide +kernel
theorem dX0_listFactors_5 : decode cX0_listFactors 5 = .ok (.iload_n 3, 1) := by decide +kernel
theorem dX0_listFactors_6 : decode cX0_listFactors 6 = .ok (.imul, 1) := by decide +kernel
theorem dX0_listFactors_7 : decode cX0_listFactors 7 = .ok (.iload_n 1, 1) := by decide +kernel
theorem dX0_listFactors_8 : decode cX0_listFactors 8 = .ok (.if_icmp .gt 31, 3) := by decide +kernel
theorem dX0_listFactors_11 : decode cX0_listFactors 11 = .ok (.iload_n 1, 1) := by decide +kernel
theorem dX0_listFactors_12 : decode cX0_listFactors 12 = .ok (.iload_n 3, 1) := by decide +kernel
theorem dX0_listFactors_13 : decode cX0_listFactors 13 = .ok (.irem, 1) := by decide +kernel
theorem dX0_listFactors_14 : decode cX0_listFactors 14 = .ok (.ifCond .ne 19, 3) := by decide +kernel
theorem dX0_listFactors_17 : decode cX0_listFactors 17 = .ok (.iload_n 2, 1) := by decide +kernel
theorem dX0_listFactors_18 : decode cX0_listFactors 18 = .ok (.bipush 10, 2) := by decide +kernel
theorem dX0_listFactors_20 : decode cX0_listFactors 20 = .ok (.if_icmp .ge 13, 3) := by decide +kernel
theorem dX0_listFactors_23 : decode cX0_listFactors 23 = .ok (.aload_n 0, 1) := by decide +kernel
theorem dX0_listFactors_24 : decode cX0_listFactors 24 = .ok (.getfield 11, 3) := by decide +kernel
theorem dX0_listFactors_27 : decode cX0_listFactors 27 = .ok (.iload_n 2, 1) := by decide +kernel
theorem dX0_listFactors_28 : decode cX0_listFactors 28 = .ok (.iinc 2 1, 3) := by decide +kernel
theorem dX0_listFactors_31 : decode cX0_listFactors 31 = .ok (.iload_n 3, 1) := by decide +kernel
theorem dX0_listFactors_32 : decode cX0_listFactors 32 = .ok (.iastore, 1) := by decide +kernel
theorem dX0_listFactors_33 : decode cX0_listFactors 33 = .ok (.iinc 3 1, 3) := by decide +kernel
theorem dX0_listFactors_36 : decode cX0_listFactors 36 = .ok (.goto (-32), 3) := by decide +kernel
theorem dX0_listFactors_39 : decode cX0_listFactors 39 = .ok (.iload_n 2, 1) := by decide +kernel
theorem dX0_listFactors_40 : decode cX0_listFactors 40 = .ok (.ireturn, 1) := by decide +kernel
set_option maxRecDepth 20000 in
theorem ggX0_seekLengths_X0_reaches : GoodIn wsX0_seekLengths wsX0_reaches := goodIn_r _ [10, 11, 12, 25, 26, 27, 28, 29, 30, 31, 32, 33, 34, 35] (by decide +kernel) (by decide +kernel)
set_option maxRecDepth 20000 in
theorem gX0_seekLengths_X0_reaches : GoodIn wsX0_seekLengths (wsV RX0 78 RX0 yX0_reaches wsX0_reaches) := goodIn_app (goodIn_of _ (by decide +kernel)) ggX0_seekLengths_X0_reaches
set_option maxRecDepth 20000 in
theorem ggX0_seekLengths_X0_hasAll : GoodIn wsX0_seekLengths wsX0_hasAll := goodIn_r _ [16, 11, 17, 18, 25, 26, 27, 28, 29, 30, 31, 32, 33, 34, 35] (by decide +kernel) (by decide +kernel)
set_option maxRecDepth 20000 in
theorem gX0_seekLengths_X0_hasAll : GoodIn wsX0_seekLengths (wsV RX0 82 RX0 yX0_hasAll wsX0_hasAll) := goodIn_app (goodIn_of _ (by decide +kernel)) ggX0_seekLengths_X0_hasAll
set_option maxRecDepth 20000 in
theorem ggX0_seekLengths_X0_tellsEachOnce : GoodIn wsX0_seekLengths wsX0_tellsEachOnce := goodIn_r _ [21, 22, 23, 24] (by decide +kernel) (by decide +kernel)
set_option maxRecDepth 20000 in
theorem gX0_seekLengths_X0_tellsEachOnce : GoodIn wsX0_seekLengths (va_wsS RX0 85 yX0_tellsEachOnce wsX0_tellsEachOnce) := goodIn_app (goodIn_of _ (by decide +kernel)) ggX0_seekLengths_X0_tellsEachOnce
theorem dX0_seekLengths_0 : decode cX0_seekLengths 0 = .ok (.iconst 0, 1) := by decide +kernel
theorem dX0_seekLengths_1 : decode cX0_seekLengths 1 = .ok (.istore 4, 2) := by decide +kernel
theorem dX0_seekLengths_3 : decode cX0_seekLengths 3 = .ok (.iload 4, 2) := by decide +kernel
theorem dX0_seekLengths_5 : decode cX0_seekLengths 5 = .ok (.iload_n 3, 1) := by decide +kernel
theorem dX0_seekLengths_6 : decode cX0_seekLengths 6 = .ok (.if_icmp .ge 93, 3) := by decide +kernel
theorem dX0_seekLengths_9 : decode cX0_seekLengths 9 = .ok (.aload_n 0, 1) := by decide +kernel
theorem dX0_seekLengths_10 : decode cX0_seekLengths 10 = .ok (.getfield 11, 3) := by decide +kernel
theorem dX0_seekLengths_13 : decode cX0_seekLengths 13 = .ok (.iload 4, 2) := by decide +kernel
theorem dX0_seekLengths_15 : decode cX0_seekLengths 15 = .ok (.iaload, 1) := by decide +kernel
theorem dX0_seekLengths_16 : decode cX0_seekLengths 16 = .ok (.istore 5, 2) := by decide +kernel
theorem dX0_seekLengths_18 : decode cX0_seekLengths 18 = .ok (.aload_n 0, 1) := by decide +kernel
theorem dX0_seekLengths_19 : decode cX0_seekLengths 19 = .ok (.getfield 11, 3) := by decide +kernel
theorem dX0_seekLengths_22 : decode cX0_seekLengths 22 = .ok (.iload_n 3, 1) := by decide +kernel
theorem dX0_seekLengths_23 : decode cX0_seekLengths 23 = .ok (.iconst 1, 1) := by decide +kernel
theorem dX0_seekLengths_24 : decode cX0_seekLengths 24 = .ok (.isub, 1) := by decide +kernel
theorem dX0_seekLengths_25 : decode cX0_seekLengths 25 = .ok (.iload 4, 2) := by decide +kernel
theorem dX0_seekLengths_27 : decode cX0_seekLengths 27 = .ok (.isub, 1) := by decide +kernel
theorem dX0_seekLengths_28 : decode cX0_seekLengths 28 = .ok (.iaload, 1) := by decide +kernel
theorem dX0_seekLengths_29 : decode cX0_seekLengths 29 = .ok (.istore 6, 2) := by decide +kernel
theorem dX0_seekLengths_31 : decode cX0_seekLengths 31 = .ok (.aload_n 0, 1) := by decide +kernel
theorem dX0_seekLengths_32 : decode cX0_seekLengths 32 = .ok (.iload_n 1, 1) := by decide +kernel
theorem dX0_seekLengths_33 : decode cX0_seekLengths 33 = .ok (.iload_n 2, 1) := by decide +kernel
theorem dX0_seekLengths_34 : decode cX0_seekLengths 34 = .ok (.iload 5, 2) := by decide +kernel
theorem dX0_seekLengths_36 : decode cX0_seekLengths 36 = .ok (.iload 6, 2) := by decide +kernel
theorem dX0_seekLengths_38 : decode cX0_seekLengths 38 = .ok (.invokevirtual 78, 3) := by decide +kernel
theorem dX0_seekLengths_41 : decode cX0_seekLengths 41 = .ok (.ifCond .eq 52, 3) := by decide +kernel
theorem dX0_seekLengths_44 : decode cX0_seekLengths 44 = .ok (.aload_n 0, 1) := by decide +kernel
theorem dX0_seekLengths_45 : decode cX0_seekLengths 45 = .ok (.iload_n 1, 1) := by decide +kernel
theorem dX0_seekLengths_46 : decode cX0_seekLengths 46 = .ok (.iload_n 2, 1) := by decide +kernel
theorem dX0_seekLengths_47 : decode cX0_seekLengths 47 = .ok (.iload 5, 2) := by decide +kernel
theorem dX0_seekLengths_49 : decode cX0_seekLengths 49 = .ok (.iload 6, 2) := by decide +kernel
theorem dX0_seekLengths_51 : decode cX0_seekLengths 51 = .ok (.invokevirtual 82, 3) := by decide +kernel
theorem dX0_seekLengths_54 : decode cX0_seekLengths 54 = .ok (.ifCond .eq 39, 3) := by decide +kernel
theorem dX0_seekLengths_57 : decode cX0_seekLengths 57 = .ok (.iload_n 1, 1) := by decide +kernel
theorem dX0_seekLengths_58 : decode cX0_seekLengths 58 = .ok (.iload_n 2, 1) := by decide +kernel
theorem dX0_seekLengths_59 : decode cX0_seekLengths 59 = .ok (.iload 5, 2) := by decide +kernel
theorem dX0_seekLengths_61 : decode cX0_seekLengths 61 = .ok (.iload 6, 2) := by decide +kernel
theorem dX0_seekLengths_63 : decode cX0_seekLengths 63 = .ok (.invokestatic 85, 3) := by decide +kernel
theorem dX0_seekLengths_66 : decode cX0_seekLengths 66 = .ok (.ifCond .eq 27, 3) := by decide +kernel
theorem dX0_seekLengths_69 : decode cX0_seekLengths 69 = .ok (.aload_n 0, 1) := by decide +kernel
theorem dX0_seekLengths_70 : decode cX0_seekLengths 70 = .ok (.iload_n 1, 1) := by decide +kernel
theorem dX0_seekLengths_71 : decode cX0_seekLengths 71 = .ok (.putfield 19, 3) := by decide +kernel
theorem dX0_seekLengths_74 : decode cX0_seekLengths 74 = .ok (.aload_n 0, 1) := by decide +kernel
theorem dX0_seekLengths_75 : decode cX0_seekLengths 75 = .ok (.iload_n 2, 1) := by decide +kernel
theorem dX0_seekLengths_76 : decode cX0_seekLengths 76 = .ok (.putfield 22, 3) := by decide +kernel
theorem dX0_seekLengths_79 : decode cX0_seekLengths 79 = .ok (.aload_n 0, 1) := by decide +kernel
theorem dX0_seekLengths_80 : decode cX0_seekLengths 80 = .ok (.iload 5, 2) := by decide +kernel
theorem dX0_seekLengths_82 : decode cX0_seekLengths 82 = .ok (.putfield 25, 3) := by decide +kernel
theorem dX0_seekLengths_85 : decode cX0_seekLengths 85 = .ok (.aload_n 0, 1) := by decide +kernel
theorem dX0_seekLengths_86 : decode cX0_seekLengths 86 = .ok (.iload 6, 2) := by decide +kernel
theorem dX0_seekLengths_88 : decode cX0_seekLengths 88 = .ok (.putfield 28, 3) := by decide +kernel
theorem dX0_seekLengths_91 : decode cX0_seekLengths 91 = .ok (.iconst 1, 1) := by decide +kernel
theorem dX0_seekLengths_92 : decode cX0_seekLengths 92 = .ok (.ireturn, 1) := by decide +kernel
theorem dX0_seekLengths_93 : decode cX0_seekLengths 93 = .ok (.iinc 4 1, 3) := by decide +kernel
theorem dX0_seekLengths_96 : decode cX0_seekLengths 96 = .ok (.goto (-93), 3) := by decide +kernel
theorem dX0_seekLengths_99 : decode cX0_seekLengths 99 = .ok (.iconst 0, 1) := by decide +kernel
theorem dX0_seekLengths_100 : decode cX0_seekLengths 100 = .ok (.ireturn, 1) := by decide +kernel
theorem dX0_reaches_0 : decode cX0_reaches 0 = .ok (.iload_n 3, 1) := by decide +kernel
theorem dX0_reaches_1 : decode cX0_reaches 1 = .ok (.iconst 1, 1) := by decide +kernel
theorem dX0_reaches_2 : decode cX0_reaches 2 = .ok (.isub, 1) := by decide +kernel
theorem dX0_reaches_3 : decode cX0_reaches 3 = .ok (.iload_n 1, 1) := by decide +kernel
theorem dX0_reaches_4 : decode cX0_reaches 4 = .ok (.imul, 1) := by decide +kernel
theorem dX0_reaches_5 : decode cX0_reaches 5 = .ok (.iload 4, 2) := by decide +kernel
theorem dX0_reaches_7 : decode cX0_reaches 7 = .ok (.iconst 1, 1) := by decide +kernel
theorem dX0_reaches_8 : decode cX0_reaches 8 = .ok (.isub, 1) := by decide +kernel
theorem dX0_reaches_9 : decode cX0_reaches 9 = .ok (.iload_n 2, 1) := by decide +kernel
theorem dX0_reaches_10 : decode cX0_reaches 10 = .ok (.imul, 1) := by decide +kernel
theorem dX0_reaches_11 : decode cX0_reaches 11 = .ok (.iadd, 1) := by decide +kernel
theorem dX0_reaches_12 : decode cX0_reaches 12 = .ok (.istore 5, 2) := by decide +kernel
theorem dX0_reaches_14 : decode cX0_reaches 14 = .ok (.iload 5, 2) := by decide +kernel
theorem dX0_reaches_16 : decode cX0_reaches 16 = .ok (.aload_n 0, 1) := by decide +kernel
theorem dX0_reaches_17 : decode cX0_reaches 17 = .ok (.getfield 49, 3) := by decide +kernel
theorem dX0_reaches_20 : decode cX0_reaches 20 = .ok (.if_icmp .lt 16, 3) := by decide +kernel
theorem dX0_reaches_23 : decode cX0_reaches 23 = .ok (.iload 5, 2) := by decide +kernel
theorem dX0_reaches_25 : decode cX0_reaches 25 = .ok (.aload_n 0, 1) := by decide +kernel
theorem dX0_reaches_26 : decode cX0_reaches 26 = .ok (.getfield 52, 3) := by decide +kernel
theorem dX0_reaches_29 : decode cX0_reaches 29 = .ok (.if_icmp .gt 7, 3) := by decide +kernel
theorem dX0_reaches_32 : decode cX0_reaches 32 = .ok (.iconst 1, 1) := by decide +kernel
theorem dX0_reaches_33 : decode cX0_reaches 33 = .ok (.goto 4, 3) := by decide +kernel
theorem dX0_reaches_36 : decode cX0_reaches 36 = .ok (.iconst 0, 1) := by decide +kernel
theorem dX0_reaches_37 : decode cX0_reaches 37 = .ok (.ireturn, 1) := by decide +kernel
theorem dX0_hasAll_0 : decode cX0_hasAll 0 = .ok (.lconst 0, 1) := by decide +kernel
theorem dX0_hasAll_1 : decode cX0_hasAll 1 = .ok (.lstore 5, 2) := by decide +kernel
theorem dX0_hasAll_3 : decode cX0_hasAll 3 = .ok (.iconst 0, 1) := by decide +kernel
theorem dX0_hasAll_4 : decode cX0_hasAll 4 = .ok (.istore 7, 2) := by decide +kernel
theorem dX0_hasAll_6 : decode cX0_hasAll 6 = .ok (.iload 7, 2) := by decide +kernel
theorem dX0_hasAll_8 : decode cX0_hasAll 8 = .ok (.iload_n 3, 1) := by decide +kernel
theorem dX0_hasAll_9 : decode cX0_hasAll 9 = .ok (.if_icmp .ge 31, 3) := by decide +kernel
theorem dX0_hasAll_12 : decode cX0_hasAll 12 = .ok (.iload 7, 2) := by decide +kernel
theorem dX0_hasAll_14 : decode cX0_hasAll 14 = .ok (.iload_n 1, 1) := by decide +kernel
theorem dX0_hasAll_15 : decode cX0_hasAll 15 = .ok (.imul, 1) := by decide +kernel
theorem dX0_hasAll_16 : decode cX0_hasAll 16 = .ok (.aload_n 0, 1) := by decide +kernel
theorem dX0_hasAll_17 : decode cX0_hasAll 17 = .ok (.getfield 49, 3) := by decide +kernel
theorem dX0_hasAll_20 : decode cX0_hasAll 20 = .ok (.if_icmp .gt 20, 3) := by decide +kernel
theorem dX0_hasAll_23 : decode cX0_hasAll 23 = .ok (.lload 5, 2) := by decide +kernel
theorem dX0_hasAll_25 : decode cX0_hasAll 25 = .ok (.lconst 1, 1) := by decide +kernel
theorem dX0_hasAll_26 : decode cX0_hasAll 26 = .ok (.iload 7, 2) := by decide +kernel
theorem dX0_hasAll_28 : decode cX0_hasAll 28 = .ok (.iload_n 1, 1) := by decide +kernel
theorem dX0_hasAll_29 : decode cX0_hasAll 29 = .ok (.imul, 1) := by decide +kernel
theorem dX0_hasAll_30 : decode cX0_hasAll 30 = .ok (.lshl, 1) := by decide +kernel
theorem dX0_hasAll_31 : decode cX0_hasAll 31 = .ok (.lor, 1) := by decide +kernel
theorem dX0_hasAll_32 : decode cX0_hasAll 32 = .ok (.lstore 5, 2) := by decide +kernel
theorem dX0_hasAll_34 : decode cX0_hasAll 34 = .ok (.iinc 7 1, 3) := by decide +kernel
theorem dX0_hasAll_37 : decode cX0_hasAll 37 = .ok (.goto (-31), 3) := by decide +kernel
theorem dX0_hasAll_40 : decode cX0_hasAll 40 = .ok (.aload_n 0, 1) := by decide +kernel
theorem dX0_hasAll_41 : decode cX0_hasAll 41 = .ok (.getfield 43, 3) := by decide +kernel
theorem dX0_hasAll_44 : decode cX0_hasAll 44 = .ok (.lstore 7, 2) := by decide +kernel
theorem dX0_hasAll_46 : decode cX0_hasAll 46 = .ok (.iconst 0, 1) := by decide +kernel
theorem dX0_hasAll_47 : decode cX0_hasAll 47 = .ok (.istore 9, 2) := by decide +kernel
theorem dX0_hasAll_49 : decode cX0_hasAll 49 = .ok (.iload 9, 2) := by decide +kernel
theorem dX0_hasAll_51 : decode cX0_hasAll 51 = .ok (.iload 4, 2) := by decide +kernel
theorem dX0_hasAll_53 : decode cX0_hasAll 53 = .ok (.if_icmp .ge 36, 3) := by decide +kernel
theorem dX0_hasAll_56 : decode cX0_hasAll 56 = .ok (.iload 9, 2) := by decide +kernel
theorem dX0_hasAll_58 : decode cX0_hasAll 58 = .ok (.iload_n 2, 1) := by decide +kernel
theorem dX0_hasAll_59 : decode cX0_hasAll 59 = .ok (.imul, 1) := by decide +kernel
theorem dX0_hasAll_60 : decode cX0_hasAll 60 = .ok (.aload_n 0, 1) := by decide +kernel
theorem dX0_hasAll_61 : decode cX0_hasAll 61 = .ok (.getfield 49, 3) := by decide +kernel
theorem dX0_hasAll_64 : decode cX0_hasAll 64 = .ok (.if_icmp .gt 25, 3) := by decide +kernel
theorem dX0_hasAll_67 : decode cX0_hasAll 67 = .ok (.lload 7, 2) := by decide +kernel
theorem dX0_hasAll_69 : decode cX0_hasAll 69 = .ok (.lload 5, 2) := by decide +kernel
theorem dX0_hasAll_71 : decode cX0_hasAll 71 = .ok (.iload 9, 2) := by decide +kernel
theorem dX0_hasAll_73 : decode cX0_hasAll 73 = .ok (.iload_n 2, 1) := by decide +kernel
theorem dX0_hasAll_74 : decode cX0_hasAll 74 = .ok (.imul, 1) := by decide +kernel
theorem dX0_hasAll_75 : decode cX0_hasAll 75 = .ok (.lshl, 1) := by decide +kernel
theorem dX0_hasAll_76 : decode cX0_hasAll 76 = .ok (.ldc2_w 88, 3) := by decide +kernel
theorem dX0_hasAll_79 : decode cX0_hasAll 79 = .ok (.lxor, 1) := by decide +kernel
theorem dX0_hasAll_80 : decode cX0_hasAll 80 = .ok (.land, 1) := by decide +kernel
theorem dX0_hasAll_81 : decode cX0_hasAll 81 = .ok (.lstore 7, 2) := by decide +kernel
theorem dX0_hasAll_83 : decode cX0_hasAll 83 = .ok (.iinc 9 1, 3) := by decide +kernel
theorem dX0_hasAll_86 : decode cX0_hasAll 86 = .ok (.goto (-37), 3) := by decide +kernel
theorem dX0_hasAll_89 : decode cX0_hasAll 89 = .ok (.lload 7, 2) := by decide +kernel
theorem dX0_hasAll_91 : decode cX0_hasAll 91 = .ok (.lconst 0, 1) := by decide +kernel
theorem dX0_hasAll_92 : decode cX0_hasAll 92 = .ok (.lcmp, 1) := by decide +kernel
theorem dX0_hasAll_93 : decode cX0_hasAll 93 = .ok (.ifCond .ne 7, 3) := by decide +kernel
theorem dX0_hasAll_96 : decode cX0_hasAll 96 = .ok (.iconst 1, 1) := by decide +kernel
theorem dX0_hasAll_97 : decode cX0_hasAll 97 = .ok (.goto 4, 3) := by decide +kernel
theorem dX0_hasAll_100 : decode cX0_hasAll 100 = .ok (.iconst 0, 1) := by decide +kernel
theorem dX0_hasAll_101 : decode cX0_hasAll 101 = .ok (.ireturn, 1) := by decide +kernel
set_option maxRecDepth 20000 in
theorem ggX0_tellsEachOnce_X7_greatestDivisor : GoodIn wsX0_tellsEachOnce wsX7_greatestDivisor := goodIn_r _ [3] (by decide +kernel) (by decide +kernel)
set_option maxRecDepth 20000 in
theorem gX0_tellsEachOnce_X7_greatestDivisor_n90 : GoodIn wsX0_tellsEachOnce (wsX7_greatestDivisor) := ggX0_tellsEachOnce_X7_greatestDivisor
theorem dX0_tellsEachOnce_0 : decode cX0_tellsEachOnce 0 = .ok (.iload_n 0, 1) := by decide +kernel
theorem dX0_tellsEachOnce_1 : decode cX0_tellsEachOnce 1 = .ok (.iload_n 1, 1) := by decide +kernel
theorem dX0_tellsEachOnce_2 : decode cX0_tellsEachOnce 2 = .ok (.invokestatic 90, 3) := by decide +kernel
theorem dX0_tellsEachOnce_5 : decode cX0_tellsEachOnce 5 = .ok (.istore 4, 2) := by decide +kernel
theorem dX0_tellsEachOnce_7 : decode cX0_tellsEachOnce 7 = .ok (.iload 4, 2) := by decide +kernel
theorem dX0_tellsEachOnce_9 : decode cX0_tellsEachOnce 9 = .ok (.ifCond .le 23, 3) := by decide +kernel
theorem dX0_tellsEachOnce_12 : decode cX0_tellsEachOnce 12 = .ok (.iload_n 1, 1) := by decide +kernel
theorem dX0_tellsEachOnce_13 : decode cX0_tellsEachOnce 13 = .ok (.iload 4, 2) := by decide +kernel
theorem dX0_tellsEachOnce_15 : decode cX0_tellsEachOnce 15 = .ok (.idiv, 1) := by decide +kernel
theorem dX0_tellsEachOnce_16 : decode cX0_tellsEachOnce 16 = .ok (.iload_n 2, 1) := by decide +kernel
theorem dX0_tellsEachOnce_17 : decode cX0_tellsEachOnce 17 = .ok (.if_icmp .ge 11, 3) := by decide +kernel
theorem dX0_tellsEachOnce_20 : decode cX0_tellsEachOnce 20 = .ok (.iload_n 0, 1) := by decide +kernel
theorem dX0_tellsEachOnce_21 : decode cX0_tellsEachOnce 21 = .ok (.iload 4, 2) := by decide +kernel
theorem dX0_tellsEachOnce_23 : decode cX0_tellsEachOnce 23 = .ok (.idiv, 1) := by decide +kernel
theorem dX0_tellsEachOnce_24 : decode cX0_tellsEachOnce 24 = .ok (.iload_n 3, 1) := by decide +kernel
theorem dX0_tellsEachOnce_25 : decode cX0_tellsEachOnce 25 = .ok (.if_icmp .lt 7, 3) := by decide +kernel
theorem dX0_tellsEachOnce_28 : decode cX0_tellsEachOnce 28 = .ok (.iconst 1, 1) := by decide +kernel
theorem dX0_tellsEachOnce_29 : decode cX0_tellsEachOnce 29 = .ok (.goto 4, 3) := by decide +kernel
theorem dX0_tellsEachOnce_32 : decode cX0_tellsEachOnce 32 = .ok (.iconst 0, 1) := by decide +kernel
theorem dX0_tellsEachOnce_33 : decode cX0_tellsEachOnce 33 = .ok (.ireturn, 1) := by decide +kernel
