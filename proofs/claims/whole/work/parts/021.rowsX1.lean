theorem dX1_init_0 : decode cX1_init 0 = .ok (.aload_n 0, 1) := by decide +kernel
theorem dX1_init_1 : decode cX1_init 1 = .ok (.invokespecial 3, 3) := by decide +kernel
theorem dX1_init_4 : decode cX1_init 4 = .ok (.aload_n 0, 1) := by decide +kernel
theorem dX1_init_5 : decode cX1_init 5 = .ok (.bipush 6, 2) := by decide +kernel
theorem dX1_init_7 : decode cX1_init 7 = .ok (.newarray .int, 2) := by decide +kernel
theorem dX1_init_9 : decode cX1_init 9 = .ok (.putfield 11, 3) := by decide +kernel
theorem dX1_init_12 : decode cX1_init 12 = .ok (.aload_n 0, 1) := by decide +kernel
theorem dX1_init_13 : decode cX1_init 13 = .ok (.bipush 6, 2) := by decide +kernel
theorem dX1_init_15 : decode cX1_init 15 = .ok (.newarray .long, 2) := by decide +kernel
theorem dX1_init_17 : decode cX1_init 17 = .ok (.putfield 15, 3) := by decide +kernel
theorem dX1_init_20 : decode cX1_init 20 = .ok (.return_, 1) := by decide +kernel
theorem dX1_size_0 : decode cX1_size 0 = .ok (.aload_n 0, 1) := by decide +kernel
theorem dX1_size_1 : decode cX1_size 1 = .ok (.getfield 19, 3) := by decide +kernel
theorem dX1_size_4 : decode cX1_size 4 = .ok (.ireturn, 1) := by decide +kernel
theorem dX1_clear_0 : decode cX1_clear 0 = .ok (.aload_n 0, 1) := by decide +kernel
theorem dX1_clear_1 : decode cX1_clear 1 = .ok (.iconst 0, 1) := by decide +kernel
theorem dX1_clear_2 : decode cX1_clear 2 = .ok (.putfield 19, 3) := by decide +kernel
theorem dX1_clear_5 : decode cX1_clear 5 = .ok (.return_, 1) := by decide +kernel
theorem dX1_keep_0 : decode cX1_keep 0 = .ok (.aload_n 0, 1) := by decide +kernel
theorem dX1_keep_1 : decode cX1_keep 1 = .ok (.getfield 19, 3) := by decide +kernel
theorem dX1_keep_4 : decode cX1_keep 4 = .ok (.bipush 6, 2) := by decide +kernel
theorem dX1_keep_6 : decode cX1_keep 6 = .ok (.if_icmp .lt 36, 3) := by decide +kernel
theorem dX1_keep_9 : decode cX1_keep 9 = .ok (.aload_n 0, 1) := by decide +kernel
theorem dX1_keep_10 : decode cX1_keep 10 = .ok (.getfield 11, 3) := by decide +kernel
theorem dX1_keep_13 : decode cX1_keep 13 = .ok (.iconst 1, 1) := by decide +kernel
theorem dX1_keep_14 : decode cX1_keep 14 = .ok (.aload_n 0, 1) := by decide +kernel
theorem dX1_keep_15 : decode cX1_keep 15 = .ok (.getfield 11, 3) := by decide +kernel
theorem dX1_keep_18 : decode cX1_keep 18 = .ok (.iconst 0, 1) := by decide +kernel
theorem dX1_keep_19 : decode cX1_keep 19 = .ok (.iconst 5, 1) := by decide +kernel
theorem dX1_keep_20 : decode cX1_keep 20 = .ok (.invokestatic 23, 3) := by decide +kernel
theorem dX1_keep_23 : decode cX1_keep 23 = .ok (.aload_n 0, 1) := by decide +kernel
theorem dX1_keep_24 : decode cX1_keep 24 = .ok (.getfield 15, 3) := by decide +kernel
theorem dX1_keep_27 : decode cX1_keep 27 = .ok (.iconst 1, 1) := by decide +kernel
theorem dX1_keep_28 : decode cX1_keep 28 = .ok (.aload_n 0, 1) := by decide +kernel
theorem dX1_keep_29 : decode cX1_keep 29 = .ok (.getfield 15, 3) := by decide +kernel
theorem dX1_keep_32 : decode cX1_keep 32 = .ok (.iconst 0, 1) := by decide +kernel
theorem dX1_keep_33 : decode cX1_keep 33 = .ok (.iconst 5, 1) := by decide +kernel
theorem dX1_keep_34 : decode cX1_keep 34 = .ok (.invokestatic 23, 3) := by decide +kernel
theorem dX1_keep_37 : decode cX1_keep 37 = .ok (.aload_n 0, 1) := by decide +kernel
theorem dX1_keep_38 : decode cX1_keep 38 = .ok (.iconst 5, 1) := by decide +kernel
theorem dX1_keep_39 : decode cX1_keep 39 = .ok (.putfield 19, 3) := by decide +kernel
theorem dX1_keep_42 : decode cX1_keep 42 = .ok (.aload_n 0, 1) := by decide +kernel
theorem dX1_keep_43 : decode cX1_keep 43 = .ok (.getfield 11, 3) := by decide +kernel
theorem dX1_keep_46 : decode cX1_keep 46 = .ok (.aload_n 0, 1) := by decide +kernel
theorem dX1_keep_47 : decode cX1_keep 47 = .ok (.getfield 19, 3) := by decide +kernel
theorem dX1_keep_50 : decode cX1_keep 50 = .ok (.iload_n 1, 1) := by decide +kernel
theorem dX1_keep_51 : decode cX1_keep 51 = .ok (.iastore, 1) := by decide +kernel
theorem dX1_keep_52 : decode cX1_keep 52 = .ok (.aload_n 0, 1) := by decide +kernel
theorem dX1_keep_53 : decode cX1_keep 53 = .ok (.getfield 15, 3) := by decide +kernel
theorem dX1_keep_56 : decode cX1_keep 56 = .ok (.aload_n 0, 1) := by decide +kernel
theorem dX1_keep_57 : decode cX1_keep 57 = .ok (.getfield 19, 3) := by decide +kernel
theorem dX1_keep_60 : decode cX1_keep 60 = .ok (.lload_n 2, 1) := by decide +kernel
theorem dX1_keep_61 : decode cX1_keep 61 = .ok (.lastore, 1) := by decide +kernel
theorem dX1_keep_62 : decode cX1_keep 62 = .ok (.aload_n 0, 1) := by decide +kernel
theorem dX1_keep_63 : decode cX1_keep 63 = .ok (.dup, 1) := by decide +kernel
theorem dX1_keep_64 : decode cX1_keep 64 = .ok (.getfield 19, 3) := by decide +kernel
theorem dX1_keep_67 : decode cX1_keep 67 = .ok (.iconst 1, 1) := by decide +kernel
theorem dX1_keep_68 : decode cX1_keep 68 = .ok (.iadd, 1) := by decide +kernel
theorem dX1_keep_69 : decode cX1_keep 69 = .ok (.putfield 19, 3) := by decide +kernel
theorem dX1_keep_72 : decode cX1_keep 72 = .ok (.return_, 1) := by decide +kernel
theorem dX1_latestSlot_0 : decode cX1_latestSlot 0 = .ok (.aload_n 0, 1) := by decide +kernel
theorem dX1_latestSlot_1 : decode cX1_latestSlot 1 = .ok (.getfield 19, 3) := by decide +kernel
theorem dX1_latestSlot_4 : decode cX1_latestSlot 4 = .ok (.ifCond .le 17, 3) := by decide +kernel
theorem dX1_latestSlot_7 : decode cX1_latestSlot 7 = .ok (.aload_n 0, 1) := by decide +kernel
theorem dX1_latestSlot_8 : decode cX1_latestSlot 8 = .ok (.getfield 11, 3) := by decide +kernel
theorem dX1_latestSlot_11 : decode cX1_latestSlot 11 = .ok (.aload_n 0, 1) := by decide +kernel
theorem dX1_latestSlot_12 : decode cX1_latestSlot 12 = .ok (.getfield 19, 3) := by decide +kernel
theorem dX1_latestSlot_15 : decode cX1_latestSlot 15 = .ok (.iconst 1, 1) := by decide +kernel
theorem dX1_latestSlot_16 : decode cX1_latestSlot 16 = .ok (.isub, 1) := by decide +kernel
theorem dX1_latestSlot_17 : decode cX1_latestSlot 17 = .ok (.iaload, 1) := by decide +kernel
theorem dX1_latestSlot_18 : decode cX1_latestSlot 18 = .ok (.goto 5, 3) := by decide +kernel
theorem dX1_latestSlot_21 : decode cX1_latestSlot 21 = .ok (.bipush (-4), 2) := by decide +kernel
theorem dX1_latestSlot_23 : decode cX1_latestSlot 23 = .ok (.ireturn, 1) := by decide +kernel
theorem dX1_latestSet_0 : decode cX1_latestSet 0 = .ok (.aload_n 0, 1) := by decide +kernel
theorem dX1_latestSet_1 : decode cX1_latestSet 1 = .ok (.getfield 19, 3) := by decide +kernel
theorem dX1_latestSet_4 : decode cX1_latestSet 4 = .ok (.ifCond .le 17, 3) := by decide +kernel
theorem dX1_latestSet_7 : decode cX1_latestSet 7 = .ok (.aload_n 0, 1) := by decide +kernel
theorem dX1_latestSet_8 : decode cX1_latestSet 8 = .ok (.getfield 15, 3) := by decide +kernel
theorem dX1_latestSet_11 : decode cX1_latestSet 11 = .ok (.aload_n 0, 1) := by decide +kernel
theorem dX1_latestSet_12 : decode cX1_latestSet 12 = .ok (.getfield 19, 3) := by decide +kernel
theorem dX1_latestSet_15 : decode cX1_latestSet 15 = .ok (.iconst 1, 1) := by decide +kernel
theorem dX1_latestSet_16 : decode cX1_latestSet 16 = .ok (.isub, 1) := by decide +kernel
theorem dX1_latestSet_17 : decode cX1_latestSet 17 = .ok (.laload, 1) := by decide +kernel
theorem dX1_latestSet_18 : decode cX1_latestSet 18 = .ok (.goto 4, 3) := by decide +kernel
theorem dX1_latestSet_21 : decode cX1_latestSet 21 = .ok (.lconst 0, 1) := by decide +kernel
theorem dX1_latestSet_22 : decode cX1_latestSet 22 = .ok (.lreturn, 1) := by decide +kernel
theorem dX1_dropLatest_0 : decode cX1_dropLatest 0 = .ok (.aload_n 0, 1) := by decide +kernel
theorem dX1_dropLatest_1 : decode cX1_dropLatest 1 = .ok (.getfield 19, 3) := by decide +kernel
theorem dX1_dropLatest_4 : decode cX1_dropLatest 4 = .ok (.ifCond .le 13, 3) := by decide +kernel
theorem dX1_dropLatest_7 : decode cX1_dropLatest 7 = .ok (.aload_n 0, 1) := by decide +kernel
theorem dX1_dropLatest_8 : decode cX1_dropLatest 8 = .ok (.dup, 1) := by decide +kernel
theorem dX1_dropLatest_9 : decode cX1_dropLatest 9 = .ok (.getfield 19, 3) := by decide +kernel
theorem dX1_dropLatest_12 : decode cX1_dropLatest 12 = .ok (.iconst 1, 1) := by decide +kernel
theorem dX1_dropLatest_13 : decode cX1_dropLatest 13 = .ok (.isub, 1) := by decide +kernel
theorem dX1_dropLatest_14 : decode cX1_dropLatest 14 = .ok (.putfield 19, 3) := by decide +kernel
theorem dX1_dropLatest_17 : decode cX1_dropLatest 17 = .ok (.return_, 1) := by decide +kernel
