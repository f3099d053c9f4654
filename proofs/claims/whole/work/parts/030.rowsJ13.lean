set_option maxRecDepth 20000 in
theorem ggJ13_numberOfLeadingZeros_95d88_J6_numberOfLeadingZeros_0f7a4 : GoodIn wsJ13_numberOfLeadingZeros_95d88 wsJ6_numberOfLeadingZeros_0f7a4 := goodIn_r _ [4, 5] (by decide +kernel) (by decide +kernel)
set_option maxRecDepth 20000 in
theorem gJ13_numberOfLeadingZeros_95d88_J6_numberOfLeadingZeros_0f7a4 : GoodIn wsJ13_numberOfLeadingZeros_95d88 (va_wsS RJ13 308 yJ6_numberOfLeadingZeros_0f7a4 wsJ6_numberOfLeadingZeros_0f7a4) := goodIn_app (goodIn_of _ (by decide +kernel)) ggJ13_numberOfLeadingZeros_95d88_J6_numberOfLeadingZeros_0f7a4
theorem dJ13_numberOfLeadingZeros_95d88_0 : decode cJ13_numberOfLeadingZeros_95d88 0 = .ok (.lload_n 0, 1) := by decide +kernel
theorem dJ13_numberOfLeadingZeros_95d88_1 : decode cJ13_numberOfLeadingZeros_95d88 1 = .ok (.bipush 32, 2) := by decide +kernel
theorem dJ13_numberOfLeadingZeros_95d88_3 : decode cJ13_numberOfLeadingZeros_95d88 3 = .ok (.lushr, 1) := by decide +kernel
theorem dJ13_numberOfLeadingZeros_95d88_4 : decode cJ13_numberOfLeadingZeros_95d88 4 = .ok (.l2i, 1) := by decide +kernel
theorem dJ13_numberOfLeadingZeros_95d88_5 : decode cJ13_numberOfLeadingZeros_95d88 5 = .ok (.istore_n 2, 1) := by decide +kernel
theorem dJ13_numberOfLeadingZeros_95d88_6 : decode cJ13_numberOfLeadingZeros_95d88 6 = .ok (.iload_n 2, 1) := by decide +kernel
theorem dJ13_numberOfLeadingZeros_95d88_7 : decode cJ13_numberOfLeadingZeros_95d88 7 = .ok (.ifCond .ne 14, 3) := by decide +kernel
theorem dJ13_numberOfLeadingZeros_95d88_10 : decode cJ13_numberOfLeadingZeros_95d88 10 = .ok (.bipush 32, 2) := by decide +kernel
theorem dJ13_numberOfLeadingZeros_95d88_12 : decode cJ13_numberOfLeadingZeros_95d88 12 = .ok (.lload_n 0, 1) := by decide +kernel
theorem dJ13_numberOfLeadingZeros_95d88_13 : decode cJ13_numberOfLeadingZeros_95d88 13 = .ok (.l2i, 1) := by decide +kernel
theorem dJ13_numberOfLeadingZeros_95d88_14 : decode cJ13_numberOfLeadingZeros_95d88 14 = .ok (.invokestatic 308, 3) := by decide +kernel
theorem dJ13_numberOfLeadingZeros_95d88_17 : decode cJ13_numberOfLeadingZeros_95d88 17 = .ok (.iadd, 1) := by decide +kernel
theorem dJ13_numberOfLeadingZeros_95d88_18 : decode cJ13_numberOfLeadingZeros_95d88 18 = .ok (.goto 7, 3) := by decide +kernel
theorem dJ13_numberOfLeadingZeros_95d88_21 : decode cJ13_numberOfLeadingZeros_95d88 21 = .ok (.iload_n 2, 1) := by decide +kernel
theorem dJ13_numberOfLeadingZeros_95d88_22 : decode cJ13_numberOfLeadingZeros_95d88 22 = .ok (.invokestatic 308, 3) := by decide +kernel
theorem dJ13_numberOfLeadingZeros_95d88_25 : decode cJ13_numberOfLeadingZeros_95d88 25 = .ok (.ireturn, 1) := by decide +kernel
set_option maxRecDepth 20000 in
theorem ggJ13_numberOfTrailingZeros_95d88_J6_numberOfTrailingZeros_0f7a4 : GoodIn wsJ13_numberOfTrailingZeros_95d88 wsJ6_numberOfTrailingZeros_0f7a4 := goodIn_r _ [4, 5] (by decide +kernel) (by decide +kernel)
set_option maxRecDepth 20000 in
theorem gJ13_numberOfTrailingZeros_95d88_J6_numberOfTrailingZeros_0f7a4 : GoodIn wsJ13_numberOfTrailingZeros_95d88 (va_wsS RJ13 311 yJ6_numberOfTrailingZeros_0f7a4 wsJ6_numberOfTrailingZeros_0f7a4) := goodIn_app (goodIn_of _ (by decide +kernel)) ggJ13_numberOfTrailingZeros_95d88_J6_numberOfTrailingZeros_0f7a4
theorem dJ13_numberOfTrailingZeros_95d88_0 : decode cJ13_numberOfTrailingZeros_95d88 0 = .ok (.lload_n 0, 1) := by decide +kernel
theorem dJ13_numberOfTrailingZeros_95d88_1 : decode cJ13_numberOfTrailingZeros_95d88 1 = .ok (.l2i, 1) := by decide +kernel
theorem dJ13_numberOfTrailingZeros_95d88_2 : decode cJ13_numberOfTrailingZeros_95d88 2 = .ok (.istore_n 2, 1) := by decide +kernel
theorem dJ13_numberOfTrailingZeros_95d88_3 : decode cJ13_numberOfTrailingZeros_95d88 3 = .ok (.iload_n 2, 1) := by decide +kernel
theorem dJ13_numberOfTrailingZeros_95d88_4 : decode cJ13_numberOfTrailingZeros_95d88 4 = .ok (.ifCond .ne 17, 3) := by decide +kernel
theorem dJ13_numberOfTrailingZeros_95d88_7 : decode cJ13_numberOfTrailingZeros_95d88 7 = .ok (.bipush 32, 2) := by decide +kernel
theorem dJ13_numberOfTrailingZeros_95d88_9 : decode cJ13_numberOfTrailingZeros_95d88 9 = .ok (.lload_n 0, 1) := by decide +kernel
theorem dJ13_numberOfTrailingZeros_95d88_10 : decode cJ13_numberOfTrailingZeros_95d88 10 = .ok (.bipush 32, 2) := by decide +kernel
theorem dJ13_numberOfTrailingZeros_95d88_12 : decode cJ13_numberOfTrailingZeros_95d88 12 = .ok (.lushr, 1) := by decide +kernel
theorem dJ13_numberOfTrailingZeros_95d88_13 : decode cJ13_numberOfTrailingZeros_95d88 13 = .ok (.l2i, 1) := by decide +kernel
theorem dJ13_numberOfTrailingZeros_95d88_14 : decode cJ13_numberOfTrailingZeros_95d88 14 = .ok (.invokestatic 311, 3) := by decide +kernel
theorem dJ13_numberOfTrailingZeros_95d88_17 : decode cJ13_numberOfTrailingZeros_95d88 17 = .ok (.iadd, 1) := by decide +kernel
theorem dJ13_numberOfTrailingZeros_95d88_18 : decode cJ13_numberOfTrailingZeros_95d88 18 = .ok (.goto 7, 3) := by decide +kernel
theorem dJ13_numberOfTrailingZeros_95d88_21 : decode cJ13_numberOfTrailingZeros_95d88 21 = .ok (.iload_n 2, 1) := by decide +kernel
theorem dJ13_numberOfTrailingZeros_95d88_22 : decode cJ13_numberOfTrailingZeros_95d88 22 = .ok (.invokestatic 311, 3) := by decide +kernel
theorem dJ13_numberOfTrailingZeros_95d88_25 : decode cJ13_numberOfTrailingZeros_95d88 25 = .ok (.ireturn, 1) := by decide +kernel
theorem dJ13_bitCount_95d88_0 : decode cJ13_bitCount_95d88 0 = .ok (.lload_n 0, 1) := by decide +kernel
theorem dJ13_bitCount_95d88_1 : decode cJ13_bitCount_95d88 1 = .ok (.lload_n 0, 1) := by decide +kernel
theorem dJ13_bitCount_95d88_2 : decode cJ13_bitCount_95d88 2 = .ok (.iconst 1, 1) := by decide +kernel
theorem dJ13_bitCount_95d88_3 : decode cJ13_bitCount_95d88 3 = .ok (.lushr, 1) := by decide +kernel
theorem dJ13_bitCount_95d88_4 : decode cJ13_bitCount_95d88 4 = .ok (.ldc2_w 314, 3) := by decide +kernel
theorem dJ13_bitCount_95d88_7 : decode cJ13_bitCount_95d88 7 = .ok (.land, 1) := by decide +kernel
theorem dJ13_bitCount_95d88_8 : decode cJ13_bitCount_95d88 8 = .ok (.lsub, 1) := by decide +kernel
theorem dJ13_bitCount_95d88_9 : decode cJ13_bitCount_95d88 9 = .ok (.lstore_n 0, 1) := by decide +kernel
theorem dJ13_bitCount_95d88_10 : decode cJ13_bitCount_95d88 10 = .ok (.lload_n 0, 1) := by decide +kernel
theorem dJ13_bitCount_95d88_11 : decode cJ13_bitCount_95d88 11 = .ok (.ldc2_w 316, 3) := by decide +kernel
theorem dJ13_bitCount_95d88_14 : decode cJ13_bitCount_95d88 14 = .ok (.land, 1) := by decide +kernel
theorem dJ13_bitCount_95d88_15 : decode cJ13_bitCount_95d88 15 = .ok (.lload_n 0, 1) := by decide +kernel
theorem dJ13_bitCount_95d88_16 : decode cJ13_bitCount_95d88 16 = .ok (.iconst 2, 1) := by decide +kernel
theorem dJ13_bitCount_95d88_17 : decode cJ13_bitCount_95d88 17 = .ok (.lushr, 1) := by decide +kernel
theorem dJ13_bitCount_95d88_18 : decode cJ13_bitCount_95d88 18 = .ok (.ldc2_w 316, 3) := by decide +kernel
theorem dJ13_bitCount_95d88_21 : decode cJ13_bitCount_95d88 21 = .ok (.land, 1) := by decide +kernel
theorem dJ13_bitCount_95d88_22 : decode cJ13_bitCount_95d88 22 = .ok (.ladd, 1) := by decide +kernel
theorem dJ13_bitCount_95d88_23 : decode cJ13_bitCount_95d88 23 = .ok (.lstore_n 0, 1) := by decide +kernel
theorem dJ13_bitCount_95d88_24 : decode cJ13_bitCount_95d88 24 = .ok (.lload_n 0, 1) := by decide +kernel
theorem dJ13_bitCount_95d88_25 : decode cJ13_bitCount_95d88 25 = .ok (.lload_n 0, 1) := by decide +kernel
theorem dJ13_bitCount_95d88_26 : decode cJ13_bitCount_95d88 26 = .ok (.iconst 4, 1) := by decide +kernel
theorem dJ13_bitCount_95d88_27 : decode cJ13_bitCount_95d88 27 = .ok (.lushr, 1) := by decide +kernel
theorem dJ13_bitCount_95d88_28 : decode cJ13_bitCount_95d88 28 = .ok (.ladd, 1) := by decide +kernel
theorem dJ13_bitCount_95d88_29 : decode cJ13_bitCount_95d88 29 = .ok (.ldc2_w 318, 3) := by decide +kernel
theorem dJ13_bitCount_95d88_32 : decode cJ13_bitCount_95d88 32 = .ok (.land, 1) := by decide +kernel
theorem dJ13_bitCount_95d88_33 : decode cJ13_bitCount_95d88 33 = .ok (.lstore_n 0, 1) := by decide +kernel
theorem dJ13_bitCount_95d88_34 : decode cJ13_bitCount_95d88 34 = .ok (.lload_n 0, 1) := by decide +kernel
theorem dJ13_bitCount_95d88_35 : decode cJ13_bitCount_95d88 35 = .ok (.lload_n 0, 1) := by decide +kernel
theorem dJ13_bitCount_95d88_36 : decode cJ13_bitCount_95d88 36 = .ok (.bipush 8, 2) := by decide +kernel
theorem dJ13_bitCount_95d88_38 : decode cJ13_bitCount_95d88 38 = .ok (.lushr, 1) := by decide +kernel
theorem dJ13_bitCount_95d88_39 : decode cJ13_bitCount_95d88 39 = .ok (.ladd, 1) := by decide +kernel
theorem dJ13_bitCount_95d88_40 : decode cJ13_bitCount_95d88 40 = .ok (.lstore_n 0, 1) := by decide +kernel
theorem dJ13_bitCount_95d88_41 : decode cJ13_bitCount_95d88 41 = .ok (.lload_n 0, 1) := by decide +kernel
theorem dJ13_bitCount_95d88_42 : decode cJ13_bitCount_95d88 42 = .ok (.lload_n 0, 1) := by decide +kernel
theorem dJ13_bitCount_95d88_43 : decode cJ13_bitCount_95d88 43 = .ok (.bipush 16, 2) := by decide +kernel
theorem dJ13_bitCount_95d88_45 : decode cJ13_bitCount_95d88 45 = .ok (.lushr, 1) := by decide +kernel
theorem dJ13_bitCount_95d88_46 : decode cJ13_bitCount_95d88 46 = .ok (.ladd, 1) := by decide +kernel
theorem dJ13_bitCount_95d88_47 : decode cJ13_bitCount_95d88 47 = .ok (.lstore_n 0, 1) := by decide +kernel
theorem dJ13_bitCount_95d88_48 : decode cJ13_bitCount_95d88 48 = .ok (.lload_n 0, 1) := by decide +kernel
theorem dJ13_bitCount_95d88_49 : decode cJ13_bitCount_95d88 49 = .ok (.lload_n 0, 1) := by decide +kernel
theorem dJ13_bitCount_95d88_50 : decode cJ13_bitCount_95d88 50 = .ok (.bipush 32, 2) := by decide +kernel
theorem dJ13_bitCount_95d88_52 : decode cJ13_bitCount_95d88 52 = .ok (.lushr, 1) := by decide +kernel
theorem dJ13_bitCount_95d88_53 : decode cJ13_bitCount_95d88 53 = .ok (.ladd, 1) := by decide +kernel
theorem dJ13_bitCount_95d88_54 : decode cJ13_bitCount_95d88 54 = .ok (.lstore_n 0, 1) := by decide +kernel
theorem dJ13_bitCount_95d88_55 : decode cJ13_bitCount_95d88 55 = .ok (.lload_n 0, 1) := by decide +kernel
theorem dJ13_bitCount_95d88_56 : decode cJ13_bitCount_95d88 56 = .ok (.l2i, 1) := by decide +kernel
theorem dJ13_bitCount_95d88_57 : decode cJ13_bitCount_95d88 57 = .ok (.bipush 127, 2) := by decide +kernel
theorem dJ13_bitCount_95d88_59 : decode cJ13_bitCount_95d88 59 = .ok (.iand, 1) := by decide +kernel
theorem dJ13_bitCount_95d88_60 : decode cJ13_bitCount_95d88 60 = .ok (.ireturn, 1) := by decide +kernel
set_option maxRecDepth 20000 in
theorem ggJ13_reverse_067f4_J13_reverseBytes_067f4 : GoodIn wsJ13_reverse_067f4 wsJ13_reverseBytes_067f4 := goodIn_r _ [7, 8, 9] (by decide +kernel) (by decide +kernel)
set_option maxRecDepth 20000 in
theorem gJ13_reverse_067f4_J13_reverseBytes_067f4 : GoodIn wsJ13_reverse_067f4 (va_wsS RJ13 320 yJ13_reverseBytes_067f4 wsJ13_reverseBytes_067f4) := goodIn_app (goodIn_of _ (by decide +kernel)) ggJ13_reverse_067f4_J13_reverseBytes_067f4
theorem dJ13_reverse_067f4_0 : decode cJ13_reverse_067f4 0 = .ok (.lload_n 0, 1) := by decide +kernel
theorem dJ13_reverse_067f4_1 : decode cJ13_reverse_067f4 1 = .ok (.ldc2_w 314, 3) := by decide +kernel
theorem dJ13_reverse_067f4_4 : decode cJ13_reverse_067f4 4 = .ok (.land, 1) := by decide +kernel
theorem dJ13_reverse_067f4_5 : decode cJ13_reverse_067f4 5 = .ok (.iconst 1, 1) := by decide +kernel
theorem dJ13_reverse_067f4_6 : decode cJ13_reverse_067f4 6 = .ok (.lshl, 1) := by decide +kernel
theorem dJ13_reverse_067f4_7 : decode cJ13_reverse_067f4 7 = .ok (.lload_n 0, 1) := by decide +kernel
theorem dJ13_reverse_067f4_8 : decode cJ13_reverse_067f4 8 = .ok (.iconst 1, 1) := by decide +kernel
theorem dJ13_reverse_067f4_9 : decode cJ13_reverse_067f4 9 = .ok (.lushr, 1) := by decide +kernel
theorem dJ13_reverse_067f4_10 : decode cJ13_reverse_067f4 10 = .ok (.ldc2_w 314, 3) := by decide +kernel
theorem dJ13_reverse_067f4_13 : decode cJ13_reverse_067f4 13 = .ok (.land, 1) := by decide +kernel
theorem dJ13_reverse_067f4_14 : decode cJ13_reverse_067f4 14 = .ok (.lor, 1) := by decide +kernel
theorem dJ13_reverse_067f4_15 : decode cJ13_reverse_067f4 15 = .ok (.lstore_n 0, 1) := by decide +kernel
theorem dJ13_reverse_067f4_16 : decode cJ13_reverse_067f4 16 = .ok (.lload_n 0, 1) := by decide +kernel
theorem dJ13_reverse_067f4_17 : decode cJ13_reverse_067f4 17 = .ok (.ldc2_w 316, 3) := by decide +kernel
theorem dJ13_reverse_067f4_20 : decode cJ13_reverse_067f4 20 = .ok (.land, 1) := by decide +kernel
theorem dJ13_reverse_067f4_21 : decode cJ13_reverse_067f4 21 = .ok (.iconst 2, 1) := by decide +kernel
theorem dJ13_reverse_067f4_22 : decode cJ13_reverse_067f4 22 = .ok (.lshl, 1) := by decide +kernel
theorem dJ13_reverse_067f4_23 : decode cJ13_reverse_067f4 23 = .ok (.lload_n 0, 1) := by decide +kernel
theorem dJ13_reverse_067f4_24 : decode cJ13_reverse_067f4 24 = .ok (.iconst 2, 1) := by decide +kernel
theorem dJ13_reverse_067f4_25 : decode cJ13_reverse_067f4 25 = .ok (.lushr, 1) := by decide +kernel
theorem dJ13_reverse_067f4_26 : decode cJ13_reverse_067f4 26 = .ok (.ldc2_w 316, 3) := by decide +kernel
theorem dJ13_reverse_067f4_29 : decode cJ13_reverse_067f4 29 = .ok (.land, 1) := by decide +kernel
theorem dJ13_reverse_067f4_30 : decode cJ13_reverse_067f4 30 = .ok (.lor, 1) := by decide +kernel
theorem dJ13_reverse_067f4_31 : decode cJ13_reverse_067f4 31 = .ok (.lstore_n 0, 1) := by decide +kernel
theorem dJ13_reverse_067f4_32 : decode cJ13_reverse_067f4 32 = .ok (.lload_n 0, 1) := by decide +kernel
theorem dJ13_reverse_067f4_33 : decode cJ13_reverse_067f4 33 = .ok (.ldc2_w 318, 3) := by decide +kernel
theorem dJ13_reverse_067f4_36 : decode cJ13_reverse_067f4 36 = .ok (.land, 1) := by decide +kernel
theorem dJ13_reverse_067f4_37 : decode cJ13_reverse_067f4 37 = .ok (.iconst 4, 1) := by decide +kernel
theorem dJ13_reverse_067f4_38 : decode cJ13_reverse_067f4 38 = .ok (.lshl, 1) := by decide +kernel
theorem dJ13_reverse_067f4_39 : decode cJ13_reverse_067f4 39 = .ok (.lload_n 0, 1) := by decide +kernel
theorem dJ13_reverse_067f4_40 : decode cJ13_reverse_067f4 40 = .ok (.iconst 4, 1) := by decide +kernel
theorem dJ13_reverse_067f4_41 : decode cJ13_reverse_067f4 41 = .ok (.lushr, 1) := by decide +kernel
theorem dJ13_reverse_067f4_42 : decode cJ13_reverse_067f4 42 = .ok (.ldc2_w 318, 3) := by decide +kernel
theorem dJ13_reverse_067f4_45 : decode cJ13_reverse_067f4 45 = .ok (.land, 1) := by decide +kernel
theorem dJ13_reverse_067f4_46 : decode cJ13_reverse_067f4 46 = .ok (.lor, 1) := by decide +kernel
theorem dJ13_reverse_067f4_47 : decode cJ13_reverse_067f4 47 = .ok (.lstore_n 0, 1) := by decide +kernel
theorem dJ13_reverse_067f4_48 : decode cJ13_reverse_067f4 48 = .ok (.lload_n 0, 1) := by decide +kernel
theorem dJ13_reverse_067f4_49 : decode cJ13_reverse_067f4 49 = .ok (.invokestatic 320, 3) := by decide +kernel
theorem dJ13_reverse_067f4_52 : decode cJ13_reverse_067f4 52 = .ok (.lreturn, 1) := by decide +kernel
theorem dJ13_reverseBytes_067f4_0 : decode cJ13_reverseBytes_067f4 0 = .ok (.lload_n 0, 1) := by decide +kernel
theorem dJ13_reverseBytes_067f4_1 : decode cJ13_reverseBytes_067f4 1 = .ok (.ldc2_w 327, 3) := by decide +kernel
theorem dJ13_reverseBytes_067f4_4 : decode cJ13_reverseBytes_067f4 4 = .ok (.land, 1) := by decide +kernel
theorem dJ13_reverseBytes_067f4_5 : decode cJ13_reverseBytes_067f4 5 = .ok (.bipush 8, 2) := by decide +kernel
theorem dJ13_reverseBytes_067f4_7 : decode cJ13_reverseBytes_067f4 7 = .ok (.lshl, 1) := by decide +kernel
theorem dJ13_reverseBytes_067f4_8 : decode cJ13_reverseBytes_067f4 8 = .ok (.lload_n 0, 1) := by decide +kernel
theorem dJ13_reverseBytes_067f4_9 : decode cJ13_reverseBytes_067f4 9 = .ok (.bipush 8, 2) := by decide +kernel
theorem dJ13_reverseBytes_067f4_11 : decode cJ13_reverseBytes_067f4 11 = .ok (.lushr, 1) := by decide +kernel
theorem dJ13_reverseBytes_067f4_12 : decode cJ13_reverseBytes_067f4 12 = .ok (.ldc2_w 327, 3) := by decide +kernel
theorem dJ13_reverseBytes_067f4_15 : decode cJ13_reverseBytes_067f4 15 = .ok (.land, 1) := by decide +kernel
theorem dJ13_reverseBytes_067f4_16 : decode cJ13_reverseBytes_067f4 16 = .ok (.lor, 1) := by decide +kernel
theorem dJ13_reverseBytes_067f4_17 : decode cJ13_reverseBytes_067f4 17 = .ok (.lstore_n 0, 1) := by decide +kernel
theorem dJ13_reverseBytes_067f4_18 : decode cJ13_reverseBytes_067f4 18 = .ok (.lload_n 0, 1) := by decide +kernel
theorem dJ13_reverseBytes_067f4_19 : decode cJ13_reverseBytes_067f4 19 = .ok (.bipush 48, 2) := by decide +kernel
theorem dJ13_reverseBytes_067f4_21 : decode cJ13_reverseBytes_067f4 21 = .ok (.lshl, 1) := by decide +kernel
theorem dJ13_reverseBytes_067f4_22 : decode cJ13_reverseBytes_067f4 22 = .ok (.lload_n 0, 1) := by decide +kernel
theorem dJ13_reverseBytes_067f4_23 : decode cJ13_reverseBytes_067f4 23 = .ok (.ldc2_w 329, 3) := by decide +kernel
theorem dJ13_reverseBytes_067f4_26 : decode cJ13_reverseBytes_067f4 26 = .ok (.land, 1) := by decide +kernel
theorem dJ13_reverseBytes_067f4_27 : decode cJ13_reverseBytes_067f4 27 = .ok (.bipush 16, 2) := by decide +kernel
theorem dJ13_reverseBytes_067f4_29 : decode cJ13_reverseBytes_067f4 29 = .ok (.lshl, 1) := by decide +kernel
theorem dJ13_reverseBytes_067f4_30 : decode cJ13_reverseBytes_067f4 30 = .ok (.lor, 1) := by decide +kernel
theorem dJ13_reverseBytes_067f4_31 : decode cJ13_reverseBytes_067f4 31 = .ok (.lload_n 0, 1) := by decide +kernel
theorem dJ13_reverseBytes_067f4_32 : decode cJ13_reverseBytes_067f4 32 = .ok (.bipush 16, 2) := by decide +kernel
theorem dJ13_reverseBytes_067f4_34 : decode cJ13_reverseBytes_067f4 34 = .ok (.lushr, 1) := by decide +kernel
theorem dJ13_reverseBytes_067f4_35 : decode cJ13_reverseBytes_067f4 35 = .ok (.ldc2_w 329, 3) := by decide +kernel
theorem dJ13_reverseBytes_067f4_38 : decode cJ13_reverseBytes_067f4 38 = .ok (.land, 1) := by decide +kernel
theorem dJ13_reverseBytes_067f4_39 : decode cJ13_reverseBytes_067f4 39 = .ok (.lor, 1) := by decide +kernel
theorem dJ13_reverseBytes_067f4_40 : decode cJ13_reverseBytes_067f4 40 = .ok (.lload_n 0, 1) := by decide +kernel
theorem dJ13_reverseBytes_067f4_41 : decode cJ13_reverseBytes_067f4 41 = .ok (.bipush 48, 2) := by decide +kernel
theorem dJ13_reverseBytes_067f4_43 : decode cJ13_reverseBytes_067f4 43 = .ok (.lushr, 1) := by decide +kernel
theorem dJ13_reverseBytes_067f4_44 : decode cJ13_reverseBytes_067f4 44 = .ok (.lor, 1) := by decide +kernel
theorem dJ13_reverseBytes_067f4_45 : decode cJ13_reverseBytes_067f4 45 = .ok (.lreturn, 1) := by decide +kernel
