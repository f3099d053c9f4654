theorem dX8_init_0 : decode cX8_init 0 = .ok (.aload_n 0, 1) := by decide +kernel
theorem dX8_init_1 : decode cX8_init 1 = .ok (.invokespecial 1, 3) := by decide +kernel
theorem dX8_init_4 : decode cX8_init 4 = .ok (.aload_n 0, 1) := by decide +kernel
theorem dX8_init_5 : decode cX8_init 5 = .ok (.sipush 200, 3) := by decide +kernel
theorem dX8_init_8 : decode cX8_init 8 = .ok (.newarray .int, 2) := by decide +kernel
theorem dX8_init_10 : decode cX8_init 10 = .ok (.putfield 7, 3) := by decide +kernel
theorem dX8_init_13 : decode cX8_init 13 = .ok (.aload_n 0, 1) := by decide +kernel
theorem dX8_init_14 : decode cX8_init 14 = .ok (.sipush 164, 3) := by decide +kernel
theorem dX8_init_17 : decode cX8_init 17 = .ok (.newarray .boolean, 2) := by decide +kernel
theorem dX8_init_19 : decode cX8_init 19 = .ok (.putfield 13, 3) := by decide +kernel
theorem dX8_init_22 : decode cX8_init 22 = .ok (.aload_n 0, 1) := by decide +kernel
theorem dX8_init_23 : decode cX8_init 23 = .ok (.sipush 984, 3) := by decide +kernel
theorem dX8_init_26 : decode cX8_init 26 = .ok (.newarray .boolean, 2) := by decide +kernel
theorem dX8_init_28 : decode cX8_init 28 = .ok (.putfield 17, 3) := by decide +kernel
theorem dX8_init_31 : decode cX8_init 31 = .ok (.aload_n 0, 1) := by decide +kernel
theorem dX8_init_32 : decode cX8_init 32 = .ok (.sipush 164, 3) := by decide +kernel
theorem dX8_init_35 : decode cX8_init 35 = .ok (.newarray .boolean, 2) := by decide +kernel
theorem dX8_init_37 : decode cX8_init 37 = .ok (.putfield 20, 3) := by decide +kernel
theorem dX8_init_40 : decode cX8_init 40 = .ok (.aload_n 0, 1) := by decide +kernel
theorem dX8_init_41 : decode cX8_init 41 = .ok (.bipush 41, 2) := by decide +kernel
theorem dX8_init_43 : decode cX8_init 43 = .ok (.newarray .int, 2) := by decide +kernel
theorem dX8_init_45 : decode cX8_init 45 = .ok (.putfield 23, 3) := by decide +kernel
theorem dX8_init_48 : decode cX8_init 48 = .ok (.aload_n 0, 1) := by decide +kernel
theorem dX8_init_49 : decode cX8_init 49 = .ok (.bipush 41, 2) := by decide +kernel
theorem dX8_init_51 : decode cX8_init 51 = .ok (.newarray .int, 2) := by decide +kernel
theorem dX8_init_53 : decode cX8_init 53 = .ok (.putfield 26, 3) := by decide +kernel
theorem dX8_init_56 : decode cX8_init 56 = .ok (.aload_n 0, 1) := by decide +kernel
theorem dX8_init_57 : decode cX8_init 57 = .ok (.sipush 241, 3) := by decide +kernel
theorem dX8_init_60 : decode cX8_init 60 = .ok (.newarray .boolean, 2) := by decide +kernel
theorem dX8_init_62 : decode cX8_init 62 = .ok (.putfield 29, 3) := by decide +kernel
theorem dX8_init_65 : decode cX8_init 65 = .ok (.aload_n 0, 1) := by decide +kernel
theorem dX8_init_66 : decode cX8_init 66 = .ok (.sipush 241, 3) := by decide +kernel
theorem dX8_init_69 : decode cX8_init 69 = .ok (.newarray .boolean, 2) := by decide +kernel
theorem dX8_init_71 : decode cX8_init 71 = .ok (.putfield 32, 3) := by decide +kernel
theorem dX8_init_74 : decode cX8_init 74 = .ok (.aload_n 0, 1) := by decide +kernel
theorem dX8_init_75 : decode cX8_init 75 = .ok (.iconst 5, 1) := by decide +kernel
theorem dX8_init_76 : decode cX8_init 76 = .ok (.newarray .int, 2) := by decide +kernel
theorem dX8_init_78 : decode cX8_init 78 = .ok (.putfield 35, 3) := by decide +kernel
theorem dX8_init_81 : decode cX8_init 81 = .ok (.aload_n 0, 1) := by decide +kernel
theorem dX8_init_82 : decode cX8_init 82 = .ok (.bipush 7, 2) := by decide +kernel
theorem dX8_init_84 : decode cX8_init 84 = .ok (.newarray .int, 2) := by decide +kernel
theorem dX8_init_86 : decode cX8_init 86 = .ok (.putfield 38, 3) := by decide +kernel
theorem dX8_init_89 : decode cX8_init 89 = .ok (.bipush 19, 2) := by decide +kernel
theorem dX8_init_91 : decode cX8_init 91 = .ok (.newarray .int, 2) := by decide +kernel
theorem dX8_init_93 : decode cX8_init 93 = .ok (.dup, 1) := by decide +kernel
theorem dX8_init_94 : decode cX8_init 94 = .ok (.iconst 0, 1) := by decide +kernel
theorem dX8_init_95 : decode cX8_init 95 = .ok (.iconst 0, 1) := by decide +kernel
theorem dX8_init_96 : decode cX8_init 96 = .ok (.iastore, 1) := by decide +kernel
theorem dX8_init_97 : decode cX8_init 97 = .ok (.dup, 1) := by decide +kernel
theorem dX8_init_98 : decode cX8_init 98 = .ok (.iconst 1, 1) := by decide +kernel
theorem dX8_init_99 : decode cX8_init 99 = .ok (.iconst 1, 1) := by decide +kernel
theorem dX8_init_100 : decode cX8_init 100 = .ok (.iastore, 1) := by decide +kernel
theorem dX8_init_101 : decode cX8_init 101 = .ok (.dup, 1) := by decide +kernel
theorem dX8_init_102 : decode cX8_init 102 = .ok (.iconst 2, 1) := by decide +kernel
theorem dX8_init_103 : decode cX8_init 103 = .ok (.iconst 2, 1) := by decide +kernel
theorem dX8_init_104 : decode cX8_init 104 = .ok (.iastore, 1) := by decide +kernel
theorem dX8_init_105 : decode cX8_init 105 = .ok (.dup, 1) := by decide +kernel
theorem dX8_init_106 : decode cX8_init 106 = .ok (.iconst 3, 1) := by decide +kernel
theorem dX8_init_107 : decode cX8_init 107 = .ok (.iconst 5, 1) := by decide +kernel
theorem dX8_init_108 : decode cX8_init 108 = .ok (.iastore, 1) := by decide +kernel
theorem dX8_init_109 : decode cX8_init 109 = .ok (.dup, 1) := by decide +kernel
theorem dX8_init_110 : decode cX8_init 110 = .ok (.iconst 4, 1) := by decide +kernel
theorem dX8_init_111 : decode cX8_init 111 = .ok (.bipush 41, 2) := by decide +kernel
theorem dX8_init_113 : decode cX8_init 113 = .ok (.iastore, 1) := by decide +kernel
theorem dX8_init_114 : decode cX8_init 114 = .ok (.dup, 1) := by decide +kernel
theorem dX8_init_115 : decode cX8_init 115 = .ok (.iconst 5, 1) := by decide +kernel
theorem dX8_init_116 : decode cX8_init 116 = .ok (.bipush 42, 2) := by decide +kernel
theorem dX8_init_118 : decode cX8_init 118 = .ok (.iastore, 1) := by decide +kernel
theorem dX8_init_119 : decode cX8_init 119 = .ok (.dup, 1) := by decide +kernel
theorem dX8_init_120 : decode cX8_init 120 = .ok (.bipush 6, 2) := by decide +kernel
theorem dX8_init_122 : decode cX8_init 122 = .ok (.bipush 45, 2) := by decide +kernel
theorem dX8_init_124 : decode cX8_init 124 = .ok (.iastore, 1) := by decide +kernel
theorem dX8_init_125 : decode cX8_init 125 = .ok (.dup, 1) := by decide +kernel
theorem dX8_init_126 : decode cX8_init 126 = .ok (.bipush 7, 2) := by decide +kernel
theorem dX8_init_128 : decode cX8_init 128 = .ok (.bipush 46, 2) := by decide +kernel
theorem dX8_init_130 : decode cX8_init 130 = .ok (.iastore, 1) := by decide +kernel
theorem dX8_init_131 : decode cX8_init 131 = .ok (.dup, 1) := by decide +kernel
theorem dX8_init_132 : decode cX8_init 132 = .ok (.bipush 8, 2) := by decide +kernel
theorem dX8_init_134 : decode cX8_init 134 = .ok (.bipush 82, 2) := by decide +kernel
theorem dX8_init_136 : decode cX8_init 136 = .ok (.iastore, 1) := by decide +kernel
theorem dX8_init_137 : decode cX8_init 137 = .ok (.dup, 1) := by decide +kernel
theorem dX8_init_138 : decode cX8_init 138 = .ok (.bipush 9, 2) := by decide +kernel
theorem dX8_init_140 : decode cX8_init 140 = .ok (.bipush 85, 2) := by decide +kernel
theorem dX8_init_142 : decode cX8_init 142 = .ok (.iastore, 1) := by decide +kernel
theorem dX8_init_143 : decode cX8_init 143 = .ok (.dup, 1) := by decide +kernel
theorem dX8_init_144 : decode cX8_init 144 = .ok (.bipush 10, 2) := by decide +kernel
theorem dX8_init_146 : decode cX8_init 146 = .ok (.bipush 88, 2) := by decide +kernel
theorem dX8_init_148 : decode cX8_init 148 = .ok (.iastore, 1) := by decide +kernel
theorem dX8_init_149 : decode cX8_init 149 = .ok (.dup, 1) := by decide +kernel
theorem dX8_init_150 : decode cX8_init 150 = .ok (.bipush 11, 2) := by decide +kernel
theorem dX8_init_152 : decode cX8_init 152 = .ok (.bipush 91, 2) := by decide +kernel
theorem dX8_init_154 : decode cX8_init 154 = .ok (.iastore, 1) := by decide +kernel
theorem dX8_init_155 : decode cX8_init 155 = .ok (.dup, 1) := by decide +kernel
theorem dX8_init_156 : decode cX8_init 156 = .ok (.bipush 12, 2) := by decide +kernel
theorem dX8_init_158 : decode cX8_init 158 = .ok (.bipush 94, 2) := by decide +kernel
theorem dX8_init_160 : decode cX8_init 160 = .ok (.iastore, 1) := by decide +kernel
theorem dX8_init_161 : decode cX8_init 161 = .ok (.dup, 1) := by decide +kernel
theorem dX8_init_162 : decode cX8_init 162 = .ok (.bipush 13, 2) := by decide +kernel
theorem dX8_init_164 : decode cX8_init 164 = .ok (.bipush 123, 2) := by decide +kernel
theorem dX8_init_166 : decode cX8_init 166 = .ok (.iastore, 1) := by decide +kernel
theorem dX8_init_167 : decode cX8_init 167 = .ok (.dup, 1) := by decide +kernel
theorem dX8_init_168 : decode cX8_init 168 = .ok (.bipush 14, 2) := by decide +kernel
theorem dX8_init_170 : decode cX8_init 170 = .ok (.bipush 124, 2) := by decide +kernel
theorem dX8_init_172 : decode cX8_init 172 = .ok (.iastore, 1) := by decide +kernel
theorem dX8_init_173 : decode cX8_init 173 = .ok (.dup, 1) := by decide +kernel
theorem dX8_init_174 : decode cX8_init 174 = .ok (.bipush 15, 2) := by decide +kernel
theorem dX8_init_176 : decode cX8_init 176 = .ok (.sipush 133, 3) := by decide +kernel
theorem dX8_init_179 : decode cX8_init 179 = .ok (.iastore, 1) := by decide +kernel
theorem dX8_init_180 : decode cX8_init 180 = .ok (.dup, 1) := by decide +kernel
theorem dX8_init_181 : decode cX8_init 181 = .ok (.bipush 16, 2) := by decide +kernel
theorem dX8_init_183 : decode cX8_init 183 = .ok (.sipush 134, 3) := by decide +kernel
theorem dX8_init_186 : decode cX8_init 186 = .ok (.iastore, 1) := by decide +kernel
theorem dX8_init_187 : decode cX8_init 187 = .ok (.dup, 1) := by decide +kernel
theorem dX8_init_188 : decode cX8_init 188 = .ok (.bipush 17, 2) := by decide +kernel
theorem dX8_init_190 : decode cX8_init 190 = .ok (.sipush 143, 3) := by decide +kernel
theorem dX8_init_193 : decode cX8_init 193 = .ok (.iastore, 1) := by decide +kernel
theorem dX8_init_194 : decode cX8_init 194 = .ok (.dup, 1) := by decide +kernel
theorem dX8_init_195 : decode cX8_init 195 = .ok (.bipush 18, 2) := by decide +kernel
theorem dX8_init_197 : decode cX8_init 197 = .ok (.sipush 144, 3) := by decide +kernel
theorem dX8_init_200 : decode cX8_init 200 = .ok (.iastore, 1) := by decide +kernel
theorem dX8_init_201 : decode cX8_init 201 = .ok (.astore_n 1, 1) := by decide +kernel
theorem dX8_init_202 : decode cX8_init 202 = .ok (.iconst 0, 1) := by decide +kernel
theorem dX8_init_203 : decode cX8_init 203 = .ok (.istore_n 2, 1) := by decide +kernel
theorem dX8_init_204 : decode cX8_init 204 = .ok (.iload_n 2, 1) := by decide +kernel
theorem dX8_init_205 : decode cX8_init 205 = .ok (.aload_n 1, 1) := by decide +kernel
theorem dX8_init_206 : decode cX8_init 206 = .ok (.arraylength, 1) := by decide +kernel
theorem dX8_init_207 : decode cX8_init 207 = .ok (.if_icmp .ge 18, 3) := by decide +kernel
theorem dX8_init_210 : decode cX8_init 210 = .ok (.aload_n 0, 1) := by decide +kernel
theorem dX8_init_211 : decode cX8_init 211 = .ok (.getfield 13, 3) := by decide +kernel
theorem dX8_init_214 : decode cX8_init 214 = .ok (.aload_n 1, 1) := by decide +kernel
theorem dX8_init_215 : decode cX8_init 215 = .ok (.iload_n 2, 1) := by decide +kernel
theorem dX8_init_216 : decode cX8_init 216 = .ok (.iaload, 1) := by decide +kernel
theorem dX8_init_217 : decode cX8_init 217 = .ok (.iconst 1, 1) := by decide +kernel
theorem dX8_init_218 : decode cX8_init 218 = .ok (.bastore, 1) := by decide +kernel
theorem dX8_init_219 : decode cX8_init 219 = .ok (.iinc 2 1, 3) := by decide +kernel
theorem dX8_init_222 : decode cX8_init 222 = .ok (.goto (-18), 3) := by decide +kernel
theorem dX8_init_225 : decode cX8_init 225 = .ok (.return_, 1) := by decide +kernel
theorem dX8_in_0 : decode cX8_in 0 = .ok (.lload_n 0, 1) := by decide +kernel
theorem dX8_in_1 : decode cX8_in 1 = .ok (.lload_n 2, 1) := by decide +kernel
theorem dX8_in_2 : decode cX8_in 2 = .ok (.lcmp, 1) := by decide +kernel
theorem dX8_in_3 : decode cX8_in 3 = .ok (.ifCond .lt 14, 3) := by decide +kernel
theorem dX8_in_6 : decode cX8_in 6 = .ok (.lload_n 0, 1) := by decide +kernel
theorem dX8_in_7 : decode cX8_in 7 = .ok (.lload 4, 2) := by decide +kernel
theorem dX8_in_9 : decode cX8_in 9 = .ok (.lcmp, 1) := by decide +kernel
theorem dX8_in_10 : decode cX8_in 10 = .ok (.ifCond .gt 7, 3) := by decide +kernel
theorem dX8_in_13 : decode cX8_in 13 = .ok (.iconst 1, 1) := by decide +kernel
theorem dX8_in_14 : decode cX8_in 14 = .ok (.goto 4, 3) := by decide +kernel
theorem dX8_in_17 : decode cX8_in 17 = .ok (.iconst 0, 1) := by decide +kernel
theorem dX8_in_18 : decode cX8_in 18 = .ok (.ireturn, 1) := by decide +kernel
set_option maxRecDepth 20000 in
theorem ggX8_isSlot_X8_in : GoodIn wsX8_isSlot wsX8_in := goodIn_r _ [5] (by decide +kernel) (by decide +kernel)
set_option maxRecDepth 20000 in
theorem gX8_isSlot_X8_in : GoodIn wsX8_isSlot (va_wsS RX8 43 yX8_in wsX8_in) := goodIn_app (goodIn_of _ (by decide +kernel)) ggX8_isSlot_X8_in
theorem dX8_isSlot_0 : decode cX8_isSlot 0 = .ok (.iload_n 0, 1) := by decide +kernel
theorem dX8_isSlot_1 : decode cX8_isSlot 1 = .ok (.i2l, 1) := by decide +kernel
theorem dX8_isSlot_2 : decode cX8_isSlot 2 = .ok (.lconst 0, 1) := by decide +kernel
theorem dX8_isSlot_3 : decode cX8_isSlot 3 = .ok (.ldc2_w 41, 3) := by decide +kernel
theorem dX8_isSlot_6 : decode cX8_isSlot 6 = .ok (.invokestatic 43, 3) := by decide +kernel
theorem dX8_isSlot_9 : decode cX8_isSlot 9 = .ok (.ireturn, 1) := by decide +kernel
set_option maxRecDepth 20000 in
theorem ggX8_write_X8_in : GoodIn wsX8_write wsX8_in := goodIn_r _ [8] (by decide +kernel) (by decide +kernel)
set_option maxRecDepth 20000 in
theorem gX8_write_X8_in : GoodIn wsX8_write (va_wsS RX8 43 yX8_in wsX8_in) := goodIn_app (goodIn_of _ (by decide +kernel)) ggX8_write_X8_in
theorem dX8_write_0 : decode cX8_write 0 = .ok (.iload_n 1, 1) := by decide +kernel
theorem dX8_write_1 : decode cX8_write 1 = .ok (.i2l, 1) := by decide +kernel
theorem dX8_write_2 : decode cX8_write 2 = .ok (.ldc2_w 47, 3) := by decide +kernel
theorem dX8_write_5 : decode cX8_write 5 = .ok (.ldc2_w 49, 3) := by decide +kernel
theorem dX8_write_8 : decode cX8_write 8 = .ok (.invokestatic 43, 3) := by decide +kernel
theorem dX8_write_11 : decode cX8_write 11 = .ok (.ifCond .ne 5, 3) := by decide +kernel
theorem dX8_write_14 : decode cX8_write 14 = .ok (.iconst (-1), 1) := by decide +kernel
theorem dX8_write_15 : decode cX8_write 15 = .ok (.ireturn, 1) := by decide +kernel
theorem dX8_write_16 : decode cX8_write 16 = .ok (.aload_n 0, 1) := by decide +kernel
theorem dX8_write_17 : decode cX8_write 17 = .ok (.getfield 51, 3) := by decide +kernel
theorem dX8_write_20 : decode cX8_write 20 = .ok (.sipush 200, 3) := by decide +kernel
theorem dX8_write_23 : decode cX8_write 23 = .ok (.if_icmp .ne 6, 3) := by decide +kernel
theorem dX8_write_26 : decode cX8_write 26 = .ok (.bipush (-3), 2) := by decide +kernel
theorem dX8_write_28 : decode cX8_write 28 = .ok (.ireturn, 1) := by decide +kernel
theorem dX8_write_29 : decode cX8_write 29 = .ok (.aload_n 0, 1) := by decide +kernel
theorem dX8_write_30 : decode cX8_write 30 = .ok (.getfield 7, 3) := by decide +kernel
theorem dX8_write_33 : decode cX8_write 33 = .ok (.aload_n 0, 1) := by decide +kernel
theorem dX8_write_34 : decode cX8_write 34 = .ok (.getfield 51, 3) := by decide +kernel
theorem dX8_write_37 : decode cX8_write 37 = .ok (.iload_n 1, 1) := by decide +kernel
theorem dX8_write_38 : decode cX8_write 38 = .ok (.iastore, 1) := by decide +kernel
theorem dX8_write_39 : decode cX8_write 39 = .ok (.aload_n 0, 1) := by decide +kernel
theorem dX8_write_40 : decode cX8_write 40 = .ok (.dup, 1) := by decide +kernel
theorem dX8_write_41 : decode cX8_write 41 = .ok (.getfield 51, 3) := by decide +kernel
theorem dX8_write_44 : decode cX8_write 44 = .ok (.iconst 1, 1) := by decide +kernel
theorem dX8_write_45 : decode cX8_write 45 = .ok (.iadd, 1) := by decide +kernel
theorem dX8_write_46 : decode cX8_write 46 = .ok (.putfield 51, 3) := by decide +kernel
theorem dX8_write_49 : decode cX8_write 49 = .ok (.aload_n 0, 1) := by decide +kernel
theorem dX8_write_50 : decode cX8_write 50 = .ok (.getfield 51, 3) := by decide +kernel
theorem dX8_write_53 : decode cX8_write 53 = .ok (.ireturn, 1) := by decide +kernel
theorem dX8_wipe_0 : decode cX8_wipe 0 = .ok (.aload_n 0, 1) := by decide +kernel
theorem dX8_wipe_1 : decode cX8_wipe 1 = .ok (.getfield 51, 3) := by decide +kernel
theorem dX8_wipe_4 : decode cX8_wipe 4 = .ok (.istore_n 1, 1) := by decide +kernel
theorem dX8_wipe_5 : decode cX8_wipe 5 = .ok (.aload_n 0, 1) := by decide +kernel
theorem dX8_wipe_6 : decode cX8_wipe 6 = .ok (.iconst 0, 1) := by decide +kernel
theorem dX8_wipe_7 : decode cX8_wipe 7 = .ok (.putfield 51, 3) := by decide +kernel
theorem dX8_wipe_10 : decode cX8_wipe 10 = .ok (.iload_n 1, 1) := by decide +kernel
theorem dX8_wipe_11 : decode cX8_wipe 11 = .ok (.ireturn, 1) := by decide +kernel
theorem dX8_byteAt_0 : decode cX8_byteAt 0 = .ok (.iload_n 1, 1) := by decide +kernel
theorem dX8_byteAt_1 : decode cX8_byteAt 1 = .ok (.aload_n 0, 1) := by decide +kernel
theorem dX8_byteAt_2 : decode cX8_byteAt 2 = .ok (.getfield 51, 3) := by decide +kernel
theorem dX8_byteAt_5 : decode cX8_byteAt 5 = .ok (.if_icmp .ge 12, 3) := by decide +kernel
theorem dX8_byteAt_8 : decode cX8_byteAt 8 = .ok (.aload_n 0, 1) := by decide +kernel
theorem dX8_byteAt_9 : decode cX8_byteAt 9 = .ok (.getfield 7, 3) := by decide +kernel
theorem dX8_byteAt_12 : decode cX8_byteAt 12 = .ok (.iload_n 1, 1) := by decide +kernel
theorem dX8_byteAt_13 : decode cX8_byteAt 13 = .ok (.iaload, 1) := by decide +kernel
theorem dX8_byteAt_14 : decode cX8_byteAt 14 = .ok (.goto 4, 3) := by decide +kernel
theorem dX8_byteAt_17 : decode cX8_byteAt 17 = .ok (.iconst 0, 1) := by decide +kernel
theorem dX8_byteAt_18 : decode cX8_byteAt 18 = .ok (.ireturn, 1) := by decide +kernel
set_option maxRecDepth 20000 in
theorem ggX8_number_X8_byteAt : GoodIn wsX8_number wsX8_byteAt := goodIn_r _ [8, 9, 10, 14, 15, 16, 17, 18, 19, 20, 21, 22, 23, 24, 25, 26, 27, 28, 29, 30] (by decide +kernel) (by decide +kernel)
set_option maxRecDepth 20000 in
theorem gX8_number_X8_byteAt : GoodIn wsX8_number (wsV RX8 58 RX8 yX8_byteAt wsX8_byteAt) := goodIn_app (goodIn_of _ (by decide +kernel)) ggX8_number_X8_byteAt
set_option maxRecDepth 20000 in
theorem ggX8_number_X8_in : GoodIn wsX8_number wsX8_in := goodIn_r _ [13] (by decide +kernel) (by decide +kernel)
set_option maxRecDepth 20000 in
theorem gX8_number_X8_in : GoodIn wsX8_number (va_wsS RX8 43 yX8_in wsX8_in) := goodIn_app (goodIn_of _ (by decide +kernel)) ggX8_number_X8_in
theorem dX8_number_0 : decode cX8_number 0 = .ok (.iconst 0, 1) := by decide +kernel
theorem dX8_number_1 : decode cX8_number 1 = .ok (.istore_n 3, 1) := by decide +kernel
theorem dX8_number_2 : decode cX8_number 2 = .ok (.iconst 0, 1) := by decide +kernel
theorem dX8_number_3 : decode cX8_number 3 = .ok (.istore 4, 2) := by decide +kernel
theorem dX8_number_5 : decode cX8_number 5 = .ok (.iload 4, 2) := by decide +kernel
theorem dX8_number_7 : decode cX8_number 7 = .ok (.iconst 2, 1) := by decide +kernel
theorem dX8_number_8 : decode cX8_number 8 = .ok (.if_icmp .ge 57, 3) := by decide +kernel
theorem dX8_number_11 : decode cX8_number 11 = .ok (.aload_n 0, 1) := by decide +kernel
theorem dX8_number_12 : decode cX8_number 12 = .ok (.aload_n 0, 1) := by decide +kernel
theorem dX8_number_13 : decode cX8_number 13 = .ok (.getfield 55, 3) := by decide +kernel
theorem dX8_number_16 : decode cX8_number 16 = .ok (.invokevirtual 58, 3) := by decide +kernel
theorem dX8_number_19 : decode cX8_number 19 = .ok (.i2l, 1) := by decide +kernel
theorem dX8_number_20 : decode cX8_number 20 = .ok (.ldc2_w 62, 3) := by decide +kernel
theorem dX8_number_23 : decode cX8_number 23 = .ok (.ldc2_w 64, 3) := by decide +kernel
theorem dX8_number_26 : decode cX8_number 26 = .ok (.invokestatic 43, 3) := by decide +kernel
theorem dX8_number_29 : decode cX8_number 29 = .ok (.ifCond .eq 36, 3) := by decide +kernel
theorem dX8_number_32 : decode cX8_number 32 = .ok (.bipush 10, 2) := by decide +kernel
theorem dX8_number_34 : decode cX8_number 34 = .ok (.iload_n 3, 1) := by decide +kernel
theorem dX8_number_35 : decode cX8_number 35 = .ok (.imul, 1) := by decide +kernel
theorem dX8_number_36 : decode cX8_number 36 = .ok (.aload_n 0, 1) := by decide +kernel
theorem dX8_number_37 : decode cX8_number 37 = .ok (.aload_n 0, 1) := by decide +kernel
theorem dX8_number_38 : decode cX8_number 38 = .ok (.getfield 55, 3) := by decide +kernel
theorem dX8_number_41 : decode cX8_number 41 = .ok (.invokevirtual 58, 3) := by decide +kernel
theorem dX8_number_44 : decode cX8_number 44 = .ok (.iadd, 1) := by decide +kernel
theorem dX8_number_45 : decode cX8_number 45 = .ok (.bipush 48, 2) := by decide +kernel
theorem dX8_number_47 : decode cX8_number 47 = .ok (.isub, 1) := by decide +kernel
theorem dX8_number_48 : decode cX8_number 48 = .ok (.istore_n 3, 1) := by decide +kernel
theorem dX8_number_49 : decode cX8_number 49 = .ok (.aload_n 0, 1) := by decide +kernel
theorem dX8_number_50 : decode cX8_number 50 = .ok (.dup, 1) := by decide +kernel
theorem dX8_number_51 : decode cX8_number 51 = .ok (.getfield 55, 3) := by decide +kernel
theorem dX8_number_54 : decode cX8_number 54 = .ok (.iconst 1, 1) := by decide +kernel
theorem dX8_number_55 : decode cX8_number 55 = .ok (.iadd, 1) := by decide +kernel
theorem dX8_number_56 : decode cX8_number 56 = .ok (.putfield 55, 3) := by decide +kernel
theorem dX8_number_59 : decode cX8_number 59 = .ok (.iinc 4 1, 3) := by decide +kernel
theorem dX8_number_62 : decode cX8_number 62 = .ok (.goto (-57), 3) := by decide +kernel
theorem dX8_number_65 : decode cX8_number 65 = .ok (.iload 4, 2) := by decide +kernel
theorem dX8_number_67 : decode cX8_number 67 = .ok (.ifCond .le 19, 3) := by decide +kernel
theorem dX8_number_70 : decode cX8_number 70 = .ok (.iload_n 3, 1) := by decide +kernel
theorem dX8_number_71 : decode cX8_number 71 = .ok (.i2l, 1) := by decide +kernel
theorem dX8_number_72 : decode cX8_number 72 = .ok (.iload_n 1, 1) := by decide +kernel
theorem dX8_number_73 : decode cX8_number 73 = .ok (.i2l, 1) := by decide +kernel
theorem dX8_number_74 : decode cX8_number 74 = .ok (.iload_n 2, 1) := by decide +kernel
theorem dX8_number_75 : decode cX8_number 75 = .ok (.i2l, 1) := by decide +kernel
theorem dX8_number_76 : decode cX8_number 76 = .ok (.invokestatic 43, 3) := by decide +kernel
theorem dX8_number_79 : decode cX8_number 79 = .ok (.ifCond .eq 7, 3) := by decide +kernel
theorem dX8_number_82 : decode cX8_number 82 = .ok (.iload_n 3, 1) := by decide +kernel
theorem dX8_number_83 : decode cX8_number 83 = .ok (.goto 4, 3) := by decide +kernel
theorem dX8_number_86 : decode cX8_number 86 = .ok (.iconst (-1), 1) := by decide +kernel
theorem dX8_number_87 : decode cX8_number 87 = .ok (.ireturn, 1) := by decide +kernel
set_option maxRecDepth 20000 in
theorem ggX8_item_X8_number : GoodIn wsX8_item wsX8_number := goodIn_r _ [7, 2, 8, 9, 10, 11, 12, 6, 13, 14, 15, 16, 17, 18, 19, 20, 21, 22, 23, 24, 25, 26, 27, 28, 29, 30, 31, 32, 33, 34, 35] (by decide +kernel) (by decide +kernel)
set_option maxRecDepth 20000 in
theorem gX8_item_X8_number : GoodIn wsX8_item (wsV RX8 66 RX8 yX8_number wsX8_number) := goodIn_app (goodIn_of _ (by decide +kernel)) ggX8_item_X8_number
set_option maxRecDepth 20000 in
theorem ggX8_item_X8_byteAt : GoodIn wsX8_item wsX8_byteAt := goodIn_r _ [13, 14, 15, 19, 20, 21, 22, 23, 24, 25, 26, 27, 28, 29, 30, 31, 32, 33, 34, 35] (by decide +kernel) (by decide +kernel)
set_option maxRecDepth 20000 in
theorem gX8_item_X8_byteAt : GoodIn wsX8_item (wsV RX8 58 RX8 yX8_byteAt wsX8_byteAt) := goodIn_app (goodIn_of _ (by decide +kernel)) ggX8_item_X8_byteAt
theorem dX8_item_0 : decode cX8_item 0 = .ok (.iload_n 1, 1) := by decide +kernel
theorem dX8_item_1 : decode cX8_item 1 = .ok (.bipush 115, 2) := by decide +kernel
theorem dX8_item_3 : decode cX8_item 3 = .ok (.if_icmp .eq 9, 3) := by decide +kernel
theorem dX8_item_6 : decode cX8_item 6 = .ok (.iload_n 1, 1) := by decide +kernel
theorem dX8_item_7 : decode cX8_item 7 = .ok (.bipush 101, 2) := by decide +kernel
theorem dX8_item_9 : decode cX8_item 9 = .ok (.if_icmp .ne 12, 3) := by decide +kernel
theorem dX8_item_12 : decode cX8_item 12 = .ok (.aload_n 0, 1) := by decide +kernel
theorem dX8_item_13 : decode cX8_item 13 = .ok (.iconst 0, 1) := by decide +kernel
theorem dX8_item_14 : decode cX8_item 14 = .ok (.iconst 3, 1) := by decide +kernel
theorem dX8_item_15 : decode cX8_item 15 = .ok (.invokevirtual 66, 3) := by decide +kernel
theorem dX8_item_18 : decode cX8_item 18 = .ok (.goto 4, 3) := by decide +kernel
theorem dX8_item_21 : decode cX8_item 21 = .ok (.iconst (-1), 1) := by decide +kernel
theorem dX8_item_22 : decode cX8_item 22 = .ok (.istore_n 2, 1) := by decide +kernel
theorem dX8_item_23 : decode cX8_item 23 = .ok (.iload_n 2, 1) := by decide +kernel
theorem dX8_item_24 : decode cX8_item 24 = .ok (.iconst (-1), 1) := by decide +kernel
theorem dX8_item_25 : decode cX8_item 25 = .ok (.if_icmp .ne 5, 3) := by decide +kernel
theorem dX8_item_28 : decode cX8_item 28 = .ok (.iconst 0, 1) := by decide +kernel
theorem dX8_item_29 : decode cX8_item 29 = .ok (.ireturn, 1) := by decide +kernel
theorem dX8_item_30 : decode cX8_item 30 = .ok (.iconst 0, 1) := by decide +kernel
theorem dX8_item_31 : decode cX8_item 31 = .ok (.istore_n 3, 1) := by decide +kernel
theorem dX8_item_32 : decode cX8_item 32 = .ok (.iload_n 3, 1) := by decide +kernel
theorem dX8_item_33 : decode cX8_item 33 = .ok (.bipush 41, 2) := by decide +kernel
theorem dX8_item_35 : decode cX8_item 35 = .ok (.if_icmp .ge 21, 3) := by decide +kernel
theorem dX8_item_38 : decode cX8_item 38 = .ok (.aload_n 0, 1) := by decide +kernel
theorem dX8_item_39 : decode cX8_item 39 = .ok (.getfield 20, 3) := by decide +kernel
theorem dX8_item_42 : decode cX8_item 42 = .ok (.bipush 41, 2) := by decide +kernel
theorem dX8_item_44 : decode cX8_item 44 = .ok (.iload_n 2, 1) := by decide +kernel
theorem dX8_item_45 : decode cX8_item 45 = .ok (.imul, 1) := by decide +kernel
theorem dX8_item_46 : decode cX8_item 46 = .ok (.iload_n 3, 1) := by decide +kernel
theorem dX8_item_47 : decode cX8_item 47 = .ok (.iadd, 1) := by decide +kernel
theorem dX8_item_48 : decode cX8_item 48 = .ok (.iconst 0, 1) := by decide +kernel
theorem dX8_item_49 : decode cX8_item 49 = .ok (.bastore, 1) := by decide +kernel
theorem dX8_item_50 : decode cX8_item 50 = .ok (.iinc 3 1, 3) := by decide +kernel
theorem dX8_item_53 : decode cX8_item 53 = .ok (.goto (-21), 3) := by decide +kernel
theorem dX8_item_56 : decode cX8_item 56 = .ok (.iconst (-1), 1) := by decide +kernel
theorem dX8_item_57 : decode cX8_item 57 = .ok (.istore_n 3, 1) := by decide +kernel
theorem dX8_item_58 : decode cX8_item 58 = .ok (.iload_n 1, 1) := by decide +kernel
theorem dX8_item_59 : decode cX8_item 59 = .ok (.bipush 115, 2) := by decide +kernel
theorem dX8_item_61 : decode cX8_item 61 = .ok (.if_icmp .ne 87, 3) := by decide +kernel
theorem dX8_item_64 : decode cX8_item 64 = .ok (.iload_n 3, 1) := by decide +kernel
theorem dX8_item_65 : decode cX8_item 65 = .ok (.ifCond .lt 16, 3) := by decide +kernel
theorem dX8_item_68 : decode cX8_item 68 = .ok (.aload_n 0, 1) := by decide +kernel
theorem dX8_item_69 : decode cX8_item 69 = .ok (.aload_n 0, 1) := by decide +kernel
theorem dX8_item_70 : decode cX8_item 70 = .ok (.getfield 55, 3) := by decide +kernel
theorem dX8_item_73 : decode cX8_item 73 = .ok (.invokevirtual 58, 3) := by decide +kernel
theorem dX8_item_76 : decode cX8_item 76 = .ok (.bipush 44, 2) := by decide +kernel
theorem dX8_item_78 : decode cX8_item 78 = .ok (.if_icmp .ne 70, 3) := by decide +kernel
theorem dX8_item_81 : decode cX8_item 81 = .ok (.aload_n 0, 1) := by decide +kernel
theorem dX8_item_82 : decode cX8_item 82 = .ok (.dup, 1) := by decide +kernel
theorem dX8_item_83 : decode cX8_item 83 = .ok (.getfield 55, 3) := by decide +kernel
theorem dX8_item_86 : decode cX8_item 86 = .ok (.iconst 1, 1) := by decide +kernel
theorem dX8_item_87 : decode cX8_item 87 = .ok (.iadd, 1) := by decide +kernel
theorem dX8_item_88 : decode cX8_item 88 = .ok (.putfield 55, 3) := by decide +kernel
theorem dX8_item_91 : decode cX8_item 91 = .ok (.aload_n 0, 1) := by decide +kernel
theorem dX8_item_92 : decode cX8_item 92 = .ok (.aload_n 0, 1) := by decide +kernel
theorem dX8_item_93 : decode cX8_item 93 = .ok (.getfield 55, 3) := by decide +kernel
theorem dX8_item_96 : decode cX8_item 96 = .ok (.iconst 1, 1) := by decide +kernel
theorem dX8_item_97 : decode cX8_item 97 = .ok (.isub, 1) := by decide +kernel
theorem dX8_item_98 : decode cX8_item 98 = .ok (.invokevirtual 58, 3) := by decide +kernel
theorem dX8_item_101 : decode cX8_item 101 = .ok (.bipush 44, 2) := by decide +kernel
theorem dX8_item_103 : decode cX8_item 103 = .ok (.if_icmp .ne 15, 3) := by decide +kernel
theorem dX8_item_106 : decode cX8_item 106 = .ok (.aload_n 0, 1) := by decide +kernel
theorem dX8_item_107 : decode cX8_item 107 = .ok (.iload_n 3, 1) := by decide +kernel
theorem dX8_item_108 : decode cX8_item 108 = .ok (.iconst 1, 1) := by decide +kernel
theorem dX8_item_109 : decode cX8_item 109 = .ok (.iadd, 1) := by decide +kernel
theorem dX8_item_110 : decode cX8_item 110 = .ok (.bipush 40, 2) := by decide +kernel
theorem dX8_item_112 : decode cX8_item 112 = .ok (.invokevirtual 66, 3) := by decide +kernel
theorem dX8_item_115 : decode cX8_item 115 = .ok (.goto 4, 3) := by decide +kernel
theorem dX8_item_118 : decode cX8_item 118 = .ok (.iconst (-1), 1) := by decide +kernel
theorem dX8_item_119 : decode cX8_item 119 = .ok (.istore 4, 2) := by decide +kernel
theorem dX8_item_121 : decode cX8_item 121 = .ok (.iload 4, 2) := by decide +kernel
theorem dX8_item_123 : decode cX8_item 123 = .ok (.iconst (-1), 1) := by decide +kernel
theorem dX8_item_124 : decode cX8_item 124 = .ok (.if_icmp .ne 5, 3) := by decide +kernel
theorem dX8_item_127 : decode cX8_item 127 = .ok (.iconst 0, 1) := by decide +kernel
theorem dX8_item_128 : decode cX8_item 128 = .ok (.ireturn, 1) := by decide +kernel
theorem dX8_item_129 : decode cX8_item 129 = .ok (.aload_n 0, 1) := by decide +kernel
theorem dX8_item_130 : decode cX8_item 130 = .ok (.getfield 20, 3) := by decide +kernel
theorem dX8_item_133 : decode cX8_item 133 = .ok (.bipush 41, 2) := by decide +kernel
theorem dX8_item_135 : decode cX8_item 135 = .ok (.iload_n 2, 1) := by decide +kernel
theorem dX8_item_136 : decode cX8_item 136 = .ok (.imul, 1) := by decide +kernel
theorem dX8_item_137 : decode cX8_item 137 = .ok (.iload 4, 2) := by decide +kernel
theorem dX8_item_139 : decode cX8_item 139 = .ok (.iadd, 1) := by decide +kernel
theorem dX8_item_140 : decode cX8_item 140 = .ok (.iconst 1, 1) := by decide +kernel
theorem dX8_item_141 : decode cX8_item 141 = .ok (.bastore, 1) := by decide +kernel
theorem dX8_item_142 : decode cX8_item 142 = .ok (.iload 4, 2) := by decide +kernel
theorem dX8_item_144 : decode cX8_item 144 = .ok (.istore_n 3, 1) := by decide +kernel
theorem dX8_item_145 : decode cX8_item 145 = .ok (.goto (-87), 3) := by decide +kernel
theorem dX8_item_148 : decode cX8_item 148 = .ok (.iconst 1, 1) := by decide +kernel
theorem dX8_item_149 : decode cX8_item 149 = .ok (.ireturn, 1) := by decide +kernel
set_option maxRecDepth 20000 in
theorem ggX8_fault_X8_item : GoodIn wsX8_fault wsX8_item := goodIn_r _ [9, 1, 2, 10, 11, 12, 8, 13, 14, 15, 16, 17, 18, 19, 3, 4, 20, 21, 22, 23, 24, 25, 26, 27, 28, 29, 30, 31, 32, 33, 34, 35, 36, 37, 38, 39] (by decide +kernel) (by decide +kernel)
set_option maxRecDepth 20000 in
theorem gX8_fault_X8_item : GoodIn wsX8_fault (wsV RX8 70 RX8 yX8_item wsX8_item) := goodIn_app (goodIn_of _ (by decide +kernel)) ggX8_fault_X8_item
set_option maxRecDepth 20000 in
theorem ggX8_fault_X8_byteAt : GoodIn wsX8_fault wsX8_byteAt := goodIn_r _ [19, 3, 4, 23, 24, 25, 26, 27, 28, 29, 30, 31, 32, 33, 34, 35, 36, 37, 38, 39] (by decide +kernel) (by decide +kernel)
set_option maxRecDepth 20000 in
theorem gX8_fault_X8_byteAt : GoodIn wsX8_fault (wsV RX8 58 RX8 yX8_byteAt wsX8_byteAt) := goodIn_app (goodIn_of _ (by decide +kernel)) ggX8_fault_X8_byteAt
theorem dX8_fault_0 : decode cX8_fault 0 = .ok (.iconst 0, 1) := by decide +kernel
theorem dX8_fault_1 : decode cX8_fault 1 = .ok (.istore_n 1, 1) := by decide +kernel
theorem dX8_fault_2 : decode cX8_fault 2 = .ok (.iload_n 1, 1) := by decide +kernel
theorem dX8_fault_3 : decode cX8_fault 3 = .ok (.sipush 164, 3) := by decide +kernel
theorem dX8_fault_6 : decode cX8_fault 6 = .ok (.if_icmp .ge 16, 3) := by decide +kernel
theorem dX8_fault_9 : decode cX8_fault 9 = .ok (.aload_n 0, 1) := by decide +kernel
theorem dX8_fault_10 : decode cX8_fault 10 = .ok (.getfield 20, 3) := by decide +kernel
theorem dX8_fault_13 : decode cX8_fault 13 = .ok (.iload_n 1, 1) := by decide +kernel
theorem dX8_fault_14 : decode cX8_fault 14 = .ok (.iconst 0, 1) := by decide +kernel
theorem dX8_fault_15 : decode cX8_fault 15 = .ok (.bastore, 1) := by decide +kernel
theorem dX8_fault_16 : decode cX8_fault 16 = .ok (.iinc 1 1, 3) := by decide +kernel
theorem dX8_fault_19 : decode cX8_fault 19 = .ok (.goto (-17), 3) := by decide +kernel
theorem dX8_fault_22 : decode cX8_fault 22 = .ok (.aload_n 0, 1) := by decide +kernel
theorem dX8_fault_23 : decode cX8_fault 23 = .ok (.iconst 0, 1) := by decide +kernel
theorem dX8_fault_24 : decode cX8_fault 24 = .ok (.putfield 55, 3) := by decide +kernel
theorem dX8_fault_27 : decode cX8_fault 27 = .ok (.aload_n 0, 1) := by decide +kernel
theorem dX8_fault_28 : decode cX8_fault 28 = .ok (.getfield 55, 3) := by decide +kernel
theorem dX8_fault_31 : decode cX8_fault 31 = .ok (.aload_n 0, 1) := by decide +kernel
theorem dX8_fault_32 : decode cX8_fault 32 = .ok (.getfield 51, 3) := by decide +kernel
theorem dX8_fault_35 : decode cX8_fault 35 = .ok (.if_icmp .ge 59, 3) := by decide +kernel
theorem dX8_fault_38 : decode cX8_fault 38 = .ok (.aload_n 0, 1) := by decide +kernel
theorem dX8_fault_39 : decode cX8_fault 39 = .ok (.getfield 55, 3) := by decide +kernel
theorem dX8_fault_42 : decode cX8_fault 42 = .ok (.istore_n 1, 1) := by decide +kernel
theorem dX8_fault_43 : decode cX8_fault 43 = .ok (.aload_n 0, 1) := by decide +kernel
theorem dX8_fault_44 : decode cX8_fault 44 = .ok (.dup, 1) := by decide +kernel
theorem dX8_fault_45 : decode cX8_fault 45 = .ok (.getfield 55, 3) := by decide +kernel
theorem dX8_fault_48 : decode cX8_fault 48 = .ok (.iconst 1, 1) := by decide +kernel
theorem dX8_fault_49 : decode cX8_fault 49 = .ok (.iadd, 1) := by decide +kernel
theorem dX8_fault_50 : decode cX8_fault 50 = .ok (.putfield 55, 3) := by decide +kernel
theorem dX8_fault_53 : decode cX8_fault 53 = .ok (.aload_n 0, 1) := by decide +kernel
theorem dX8_fault_54 : decode cX8_fault 54 = .ok (.aload_n 0, 1) := by decide +kernel
theorem dX8_fault_55 : decode cX8_fault 55 = .ok (.getfield 7, 3) := by decide +kernel
theorem dX8_fault_58 : decode cX8_fault 58 = .ok (.iload_n 1, 1) := by decide +kernel
theorem dX8_fault_59 : decode cX8_fault 59 = .ok (.iaload, 1) := by decide +kernel
theorem dX8_fault_60 : decode cX8_fault 60 = .ok (.invokevirtual 70, 3) := by decide +kernel
theorem dX8_fault_63 : decode cX8_fault 63 = .ok (.ifCond .eq 16, 3) := by decide +kernel
theorem dX8_fault_66 : decode cX8_fault 66 = .ok (.aload_n 0, 1) := by decide +kernel
theorem dX8_fault_67 : decode cX8_fault 67 = .ok (.aload_n 0, 1) := by decide +kernel
theorem dX8_fault_68 : decode cX8_fault 68 = .ok (.getfield 55, 3) := by decide +kernel
theorem dX8_fault_71 : decode cX8_fault 71 = .ok (.invokevirtual 58, 3) := by decide +kernel
theorem dX8_fault_74 : decode cX8_fault 74 = .ok (.bipush 59, 2) := by decide +kernel
theorem dX8_fault_76 : decode cX8_fault 76 = .ok (.if_icmp .eq 5, 3) := by decide +kernel
theorem dX8_fault_79 : decode cX8_fault 79 = .ok (.iload_n 1, 1) := by decide +kernel
theorem dX8_fault_80 : decode cX8_fault 80 = .ok (.ireturn, 1) := by decide +kernel
theorem dX8_fault_81 : decode cX8_fault 81 = .ok (.aload_n 0, 1) := by decide +kernel
theorem dX8_fault_82 : decode cX8_fault 82 = .ok (.dup, 1) := by decide +kernel
theorem dX8_fault_83 : decode cX8_fault 83 = .ok (.getfield 55, 3) := by decide +kernel
theorem dX8_fault_86 : decode cX8_fault 86 = .ok (.iconst 1, 1) := by decide +kernel
theorem dX8_fault_87 : decode cX8_fault 87 = .ok (.iadd, 1) := by decide +kernel
theorem dX8_fault_88 : decode cX8_fault 88 = .ok (.putfield 55, 3) := by decide +kernel
theorem dX8_fault_91 : decode cX8_fault 91 = .ok (.goto (-64), 3) := by decide +kernel
theorem dX8_fault_94 : decode cX8_fault 94 = .ok (.bipush (-4), 2) := by decide +kernel
theorem dX8_fault_96 : decode cX8_fault 96 = .ok (.ireturn, 1) := by decide +kernel
set_option maxRecDepth 20000 in
theorem ggX8_slots_X8_manyOf : GoodIn wsX8_slots wsX8_manyOf := goodIn_r _ [5, 6, 7, 8, 9, 10, 11, 12, 13, 14, 15, 16, 17, 18, 19, 20, 21, 22, 23] (by decide +kernel) (by decide +kernel)
set_option maxRecDepth 20000 in
theorem gX8_slots_X8_manyOf : GoodIn wsX8_slots (wsV RX8 74 RX8 yX8_manyOf wsX8_manyOf) := goodIn_app (goodIn_of _ (by decide +kernel)) ggX8_slots_X8_manyOf
theorem dX8_slots_0 : decode cX8_slots 0 = .ok (.iconst 0, 1) := by decide +kernel
theorem dX8_slots_1 : decode cX8_slots 1 = .ok (.istore_n 1, 1) := by decide +kernel
theorem dX8_slots_2 : decode cX8_slots 2 = .ok (.iconst 0, 1) := by decide +kernel
theorem dX8_slots_3 : decode cX8_slots 3 = .ok (.istore_n 2, 1) := by decide +kernel
theorem dX8_slots_4 : decode cX8_slots 4 = .ok (.iload_n 2, 1) := by decide +kernel
theorem dX8_slots_5 : decode cX8_slots 5 = .ok (.iconst 4, 1) := by decide +kernel
theorem dX8_slots_6 : decode cX8_slots 6 = .ok (.if_icmp .ge 25, 3) := by decide +kernel
theorem dX8_slots_9 : decode cX8_slots 9 = .ok (.iload_n 1, 1) := by decide +kernel
theorem dX8_slots_10 : decode cX8_slots 10 = .ok (.aload_n 0, 1) := by decide +kernel
theorem dX8_slots_11 : decode cX8_slots 11 = .ok (.iload_n 2, 1) := by decide +kernel
theorem dX8_slots_12 : decode cX8_slots 12 = .ok (.invokevirtual 74, 3) := by decide +kernel
theorem dX8_slots_15 : decode cX8_slots 15 = .ok (.ifCond .le 7, 3) := by decide +kernel
theorem dX8_slots_18 : decode cX8_slots 18 = .ok (.iconst 1, 1) := by decide +kernel
theorem dX8_slots_19 : decode cX8_slots 19 = .ok (.goto 4, 3) := by decide +kernel
theorem dX8_slots_22 : decode cX8_slots 22 = .ok (.iconst 0, 1) := by decide +kernel
theorem dX8_slots_23 : decode cX8_slots 23 = .ok (.iadd, 1) := by decide +kernel
theorem dX8_slots_24 : decode cX8_slots 24 = .ok (.istore_n 1, 1) := by decide +kernel
theorem dX8_slots_25 : decode cX8_slots 25 = .ok (.iinc 2 1, 3) := by decide +kernel
theorem dX8_slots_28 : decode cX8_slots 28 = .ok (.goto (-24), 3) := by decide +kernel
theorem dX8_slots_31 : decode cX8_slots 31 = .ok (.iload_n 1, 1) := by decide +kernel
theorem dX8_slots_32 : decode cX8_slots 32 = .ok (.ireturn, 1) := by decide +kernel
set_option maxRecDepth 20000 in
theorem ggX8_lay_X8_fault : GoodIn wsX8_lay wsX8_fault := goodIn_r _ [8, 2, 9, 10, 11, 12, 13, 14, 7, 15, 16, 17, 18, 19, 20, 21, 22, 23, 24, 25, 26, 27, 28, 37, 38, 39, 40, 41, 42, 43, 44, 45, 46, 47, 48, 49, 50, 51, 52, 53] (by decide +kernel) (by decide +kernel)
set_option maxRecDepth 20000 in
theorem gX8_lay_X8_fault : GoodIn wsX8_lay (wsV RX8 77 RX8 yX8_fault wsX8_fault) := goodIn_app (goodIn_of _ (by decide +kernel)) ggX8_lay_X8_fault
set_option maxRecDepth 20000 in
theorem ggX8_lay_X8_slots : GoodIn wsX8_lay wsX8_slots := goodIn_r _ [32, 33, 34, 35, 7, 36, 1, 37, 38, 39, 40, 41, 42, 43, 44, 45, 46, 47, 48, 49, 50, 51, 52, 53] (by decide +kernel) (by decide +kernel)
set_option maxRecDepth 20000 in
theorem gX8_lay_X8_slots : GoodIn wsX8_lay (wsV RX8 84 RX8 yX8_slots wsX8_slots) := goodIn_app (goodIn_of _ (by decide +kernel)) ggX8_lay_X8_slots
theorem dX8_lay_0 : decode cX8_lay 0 = .ok (.aload_n 0, 1) := by decide +kernel
theorem dX8_lay_1 : decode cX8_lay 1 = .ok (.invokevirtual 77, 3) := by decide +kernel
theorem dX8_lay_4 : decode cX8_lay 4 = .ok (.bipush (-4), 2) := by decide +kernel
theorem dX8_lay_6 : decode cX8_lay 6 = .ok (.if_icmp .eq 6, 3) := by decide +kernel
theorem dX8_lay_9 : decode cX8_lay 9 = .ok (.bipush (-2), 2) := by decide +kernel
theorem dX8_lay_11 : decode cX8_lay 11 = .ok (.ireturn, 1) := by decide +kernel
theorem dX8_lay_12 : decode cX8_lay 12 = .ok (.iconst 0, 1) := by decide +kernel
theorem dX8_lay_13 : decode cX8_lay 13 = .ok (.istore_n 1, 1) := by decide +kernel
theorem dX8_lay_14 : decode cX8_lay 14 = .ok (.iload_n 1, 1) := by decide +kernel
theorem dX8_lay_15 : decode cX8_lay 15 = .ok (.sipush 164, 3) := by decide +kernel
theorem dX8_lay_18 : decode cX8_lay 18 = .ok (.if_icmp .ge 21, 3) := by decide +kernel
theorem dX8_lay_21 : decode cX8_lay 21 = .ok (.aload_n 0, 1) := by decide +kernel
theorem dX8_lay_22 : decode cX8_lay 22 = .ok (.getfield 13, 3) := by decide +kernel
theorem dX8_lay_25 : decode cX8_lay 25 = .ok (.iload_n 1, 1) := by decide +kernel
theorem dX8_lay_26 : decode cX8_lay 26 = .ok (.aload_n 0, 1) := by decide +kernel
theorem dX8_lay_27 : decode cX8_lay 27 = .ok (.getfield 20, 3) := by decide +kernel
theorem dX8_lay_30 : decode cX8_lay 30 = .ok (.iload_n 1, 1) := by decide +kernel
theorem dX8_lay_31 : decode cX8_lay 31 = .ok (.baload, 1) := by decide +kernel
theorem dX8_lay_32 : decode cX8_lay 32 = .ok (.bastore, 1) := by decide +kernel
theorem dX8_lay_33 : decode cX8_lay 33 = .ok (.iinc 1 1, 3) := by decide +kernel
theorem dX8_lay_36 : decode cX8_lay 36 = .ok (.goto (-22), 3) := by decide +kernel
theorem dX8_lay_39 : decode cX8_lay 39 = .ok (.aload_n 0, 1) := by decide +kernel
theorem dX8_lay_40 : decode cX8_lay 40 = .ok (.iconst 0, 1) := by decide +kernel
theorem dX8_lay_41 : decode cX8_lay 41 = .ok (.putfield 81, 3) := by decide +kernel
theorem dX8_lay_44 : decode cX8_lay 44 = .ok (.aload_n 0, 1) := by decide +kernel
theorem dX8_lay_45 : decode cX8_lay 45 = .ok (.invokevirtual 84, 3) := by decide +kernel
theorem dX8_lay_48 : decode cX8_lay 48 = .ok (.ireturn, 1) := by decide +kernel
theorem dX8_note_0 : decode cX8_note 0 = .ok (.aload_n 0, 1) := by decide +kernel
theorem dX8_note_1 : decode cX8_note 1 = .ok (.getfield 81, 3) := by decide +kernel
theorem dX8_note_4 : decode cX8_note 4 = .ok (.bipush 6, 2) := by decide +kernel
theorem dX8_note_6 : decode cX8_note 6 = .ok (.if_icmp .ne 44, 3) := by decide +kernel
theorem dX8_note_9 : decode cX8_note 9 = .ok (.iconst 0, 1) := by decide +kernel
theorem dX8_note_10 : decode cX8_note 10 = .ok (.istore_n 1, 1) := by decide +kernel
theorem dX8_note_11 : decode cX8_note 11 = .ok (.iload_n 1, 1) := by decide +kernel
theorem dX8_note_12 : decode cX8_note 12 = .ok (.sipush 820, 3) := by decide +kernel
theorem dX8_note_15 : decode cX8_note 15 = .ok (.if_icmp .ge 25, 3) := by decide +kernel
theorem dX8_note_18 : decode cX8_note 18 = .ok (.aload_n 0, 1) := by decide +kernel
theorem dX8_note_19 : decode cX8_note 19 = .ok (.getfield 17, 3) := by decide +kernel
theorem dX8_note_22 : decode cX8_note 22 = .ok (.iload_n 1, 1) := by decide +kernel
theorem dX8_note_23 : decode cX8_note 23 = .ok (.aload_n 0, 1) := by decide +kernel
theorem dX8_note_24 : decode cX8_note 24 = .ok (.getfield 17, 3) := by decide +kernel
theorem dX8_note_27 : decode cX8_note 27 = .ok (.sipush 164, 3) := by decide +kernel
theorem dX8_note_30 : decode cX8_note 30 = .ok (.iload_n 1, 1) := by decide +kernel
theorem dX8_note_31 : decode cX8_note 31 = .ok (.iadd, 1) := by decide +kernel
theorem dX8_note_32 : decode cX8_note 32 = .ok (.baload, 1) := by decide +kernel
theorem dX8_note_33 : decode cX8_note 33 = .ok (.bastore, 1) := by decide +kernel
theorem dX8_note_34 : decode cX8_note 34 = .ok (.iinc 1 1, 3) := by decide +kernel
theorem dX8_note_37 : decode cX8_note 37 = .ok (.goto (-26), 3) := by decide +kernel
theorem dX8_note_40 : decode cX8_note 40 = .ok (.aload_n 0, 1) := by decide +kernel
theorem dX8_note_41 : decode cX8_note 41 = .ok (.dup, 1) := by decide +kernel
theorem dX8_note_42 : decode cX8_note 42 = .ok (.getfield 81, 3) := by decide +kernel
theorem dX8_note_45 : decode cX8_note 45 = .ok (.iconst 1, 1) := by decide +kernel
theorem dX8_note_46 : decode cX8_note 46 = .ok (.isub, 1) := by decide +kernel
theorem dX8_note_47 : decode cX8_note 47 = .ok (.putfield 81, 3) := by decide +kernel
theorem dX8_note_50 : decode cX8_note 50 = .ok (.iconst 0, 1) := by decide +kernel
theorem dX8_note_51 : decode cX8_note 51 = .ok (.istore_n 1, 1) := by decide +kernel
theorem dX8_note_52 : decode cX8_note 52 = .ok (.iload_n 1, 1) := by decide +kernel
theorem dX8_note_53 : decode cX8_note 53 = .ok (.sipush 164, 3) := by decide +kernel
theorem dX8_note_56 : decode cX8_note 56 = .ok (.if_icmp .ge 30, 3) := by decide +kernel
theorem dX8_note_59 : decode cX8_note 59 = .ok (.aload_n 0, 1) := by decide +kernel
theorem dX8_note_60 : decode cX8_note 60 = .ok (.getfield 17, 3) := by decide +kernel
theorem dX8_note_63 : decode cX8_note 63 = .ok (.sipush 164, 3) := by decide +kernel
theorem dX8_note_66 : decode cX8_note 66 = .ok (.aload_n 0, 1) := by decide +kernel
theorem dX8_note_67 : decode cX8_note 67 = .ok (.getfield 81, 3) := by decide +kernel
theorem dX8_note_70 : decode cX8_note 70 = .ok (.imul, 1) := by decide +kernel
theorem dX8_note_71 : decode cX8_note 71 = .ok (.iload_n 1, 1) := by decide +kernel
theorem dX8_note_72 : decode cX8_note 72 = .ok (.iadd, 1) := by decide +kernel
theorem dX8_note_73 : decode cX8_note 73 = .ok (.aload_n 0, 1) := by decide +kernel
theorem dX8_note_74 : decode cX8_note 74 = .ok (.getfield 13, 3) := by decide +kernel
theorem dX8_note_77 : decode cX8_note 77 = .ok (.iload_n 1, 1) := by decide +kernel
theorem dX8_note_78 : decode cX8_note 78 = .ok (.baload, 1) := by decide +kernel
theorem dX8_note_79 : decode cX8_note 79 = .ok (.bastore, 1) := by decide +kernel
theorem dX8_note_80 : decode cX8_note 80 = .ok (.iinc 1 1, 3) := by decide +kernel
theorem dX8_note_83 : decode cX8_note 83 = .ok (.goto (-31), 3) := by decide +kernel
theorem dX8_note_86 : decode cX8_note 86 = .ok (.aload_n 0, 1) := by decide +kernel
theorem dX8_note_87 : decode cX8_note 87 = .ok (.dup, 1) := by decide +kernel
theorem dX8_note_88 : decode cX8_note 88 = .ok (.getfield 81, 3) := by decide +kernel
theorem dX8_note_91 : decode cX8_note 91 = .ok (.iconst 1, 1) := by decide +kernel
theorem dX8_note_92 : decode cX8_note 92 = .ok (.iadd, 1) := by decide +kernel
theorem dX8_note_93 : decode cX8_note 93 = .ok (.putfield 81, 3) := by decide +kernel
theorem dX8_note_96 : decode cX8_note 96 = .ok (.return_, 1) := by decide +kernel
theorem dX8_undo_0 : decode cX8_undo 0 = .ok (.aload_n 0, 1) := by decide +kernel
theorem dX8_undo_1 : decode cX8_undo 1 = .ok (.getfield 81, 3) := by decide +kernel
theorem dX8_undo_4 : decode cX8_undo 4 = .ok (.ifCond .ne 6, 3) := by decide +kernel
theorem dX8_undo_7 : decode cX8_undo 7 = .ok (.bipush (-2), 2) := by decide +kernel
theorem dX8_undo_9 : decode cX8_undo 9 = .ok (.ireturn, 1) := by decide +kernel
theorem dX8_undo_10 : decode cX8_undo 10 = .ok (.aload_n 0, 1) := by decide +kernel
theorem dX8_undo_11 : decode cX8_undo 11 = .ok (.dup, 1) := by decide +kernel
theorem dX8_undo_12 : decode cX8_undo 12 = .ok (.getfield 81, 3) := by decide +kernel
theorem dX8_undo_15 : decode cX8_undo 15 = .ok (.iconst 1, 1) := by decide +kernel
theorem dX8_undo_16 : decode cX8_undo 16 = .ok (.isub, 1) := by decide +kernel
theorem dX8_undo_17 : decode cX8_undo 17 = .ok (.putfield 81, 3) := by decide +kernel
theorem dX8_undo_20 : decode cX8_undo 20 = .ok (.iconst 0, 1) := by decide +kernel
theorem dX8_undo_21 : decode cX8_undo 21 = .ok (.istore_n 1, 1) := by decide +kernel
theorem dX8_undo_22 : decode cX8_undo 22 = .ok (.iload_n 1, 1) := by decide +kernel
theorem dX8_undo_23 : decode cX8_undo 23 = .ok (.sipush 164, 3) := by decide +kernel
theorem dX8_undo_26 : decode cX8_undo 26 = .ok (.if_icmp .ge 30, 3) := by decide +kernel
theorem dX8_undo_29 : decode cX8_undo 29 = .ok (.aload_n 0, 1) := by decide +kernel
theorem dX8_undo_30 : decode cX8_undo 30 = .ok (.getfield 13, 3) := by decide +kernel
theorem dX8_undo_33 : decode cX8_undo 33 = .ok (.iload_n 1, 1) := by decide +kernel
theorem dX8_undo_34 : decode cX8_undo 34 = .ok (.aload_n 0, 1) := by decide +kernel
theorem dX8_undo_35 : decode cX8_undo 35 = .ok (.getfield 17, 3) := by decide +kernel
theorem dX8_undo_38 : decode cX8_undo 38 = .ok (.sipush 164, 3) := by decide +kernel
theorem dX8_undo_41 : decode cX8_undo 41 = .ok (.aload_n 0, 1) := by decide +kernel
theorem dX8_undo_42 : decode cX8_undo 42 = .ok (.getfield 81, 3) := by decide +kernel
theorem dX8_undo_45 : decode cX8_undo 45 = .ok (.imul, 1) := by decide +kernel
theorem dX8_undo_46 : decode cX8_undo 46 = .ok (.iload_n 1, 1) := by decide +kernel
theorem dX8_undo_47 : decode cX8_undo 47 = .ok (.iadd, 1) := by decide +kernel
theorem dX8_undo_48 : decode cX8_undo 48 = .ok (.baload, 1) := by decide +kernel
theorem dX8_undo_49 : decode cX8_undo 49 = .ok (.bastore, 1) := by decide +kernel
theorem dX8_undo_50 : decode cX8_undo 50 = .ok (.iinc 1 1, 3) := by decide +kernel
theorem dX8_undo_53 : decode cX8_undo 53 = .ok (.goto (-31), 3) := by decide +kernel
theorem dX8_undo_56 : decode cX8_undo 56 = .ok (.aload_n 0, 1) := by decide +kernel
theorem dX8_undo_57 : decode cX8_undo 57 = .ok (.getfield 81, 3) := by decide +kernel
theorem dX8_undo_60 : decode cX8_undo 60 = .ok (.ireturn, 1) := by decide +kernel
theorem dX8_manyOf_0 : decode cX8_manyOf 0 = .ok (.iconst 0, 1) := by decide +kernel
theorem dX8_manyOf_1 : decode cX8_manyOf 1 = .ok (.istore_n 2, 1) := by decide +kernel
theorem dX8_manyOf_2 : decode cX8_manyOf 2 = .ok (.iconst 0, 1) := by decide +kernel
theorem dX8_manyOf_3 : decode cX8_manyOf 3 = .ok (.istore_n 3, 1) := by decide +kernel
theorem dX8_manyOf_4 : decode cX8_manyOf 4 = .ok (.iload_n 3, 1) := by decide +kernel
theorem dX8_manyOf_5 : decode cX8_manyOf 5 = .ok (.bipush 41, 2) := by decide +kernel
theorem dX8_manyOf_7 : decode cX8_manyOf 7 = .ok (.if_icmp .ge 31, 3) := by decide +kernel
theorem dX8_manyOf_10 : decode cX8_manyOf 10 = .ok (.iload_n 2, 1) := by decide +kernel
theorem dX8_manyOf_11 : decode cX8_manyOf 11 = .ok (.aload_n 0, 1) := by decide +kernel
theorem dX8_manyOf_12 : decode cX8_manyOf 12 = .ok (.getfield 13, 3) := by decide +kernel
theorem dX8_manyOf_15 : decode cX8_manyOf 15 = .ok (.bipush 41, 2) := by decide +kernel
theorem dX8_manyOf_17 : decode cX8_manyOf 17 = .ok (.iload_n 1, 1) := by decide +kernel
theorem dX8_manyOf_18 : decode cX8_manyOf 18 = .ok (.imul, 1) := by decide +kernel
theorem dX8_manyOf_19 : decode cX8_manyOf 19 = .ok (.iload_n 3, 1) := by decide +kernel
theorem dX8_manyOf_20 : decode cX8_manyOf 20 = .ok (.iadd, 1) := by decide +kernel
theorem dX8_manyOf_21 : decode cX8_manyOf 21 = .ok (.baload, 1) := by decide +kernel
theorem dX8_manyOf_22 : decode cX8_manyOf 22 = .ok (.ifCond .eq 7, 3) := by decide +kernel
theorem dX8_manyOf_25 : decode cX8_manyOf 25 = .ok (.iconst 1, 1) := by decide +kernel
theorem dX8_manyOf_26 : decode cX8_manyOf 26 = .ok (.goto 4, 3) := by decide +kernel
theorem dX8_manyOf_29 : decode cX8_manyOf 29 = .ok (.iconst 0, 1) := by decide +kernel
theorem dX8_manyOf_30 : decode cX8_manyOf 30 = .ok (.iadd, 1) := by decide +kernel
theorem dX8_manyOf_31 : decode cX8_manyOf 31 = .ok (.istore_n 2, 1) := by decide +kernel
theorem dX8_manyOf_32 : decode cX8_manyOf 32 = .ok (.iinc 3 1, 3) := by decide +kernel
theorem dX8_manyOf_35 : decode cX8_manyOf 35 = .ok (.goto (-31), 3) := by decide +kernel
theorem dX8_manyOf_38 : decode cX8_manyOf 38 = .ok (.iload_n 2, 1) := by decide +kernel
theorem dX8_manyOf_39 : decode cX8_manyOf 39 = .ok (.ireturn, 1) := by decide +kernel
set_option maxRecDepth 20000 in
theorem ggX8_tells_X8_isSlot : GoodIn wsX8_tells wsX8_isSlot := goodIn_r _ [6, 7, 8, 9, 5, 10] (by decide +kernel) (by decide +kernel)
set_option maxRecDepth 20000 in
theorem gX8_tells_X8_isSlot : GoodIn wsX8_tells (va_wsS RX8 87 yX8_isSlot wsX8_isSlot) := goodIn_app (goodIn_of _ (by decide +kernel)) ggX8_tells_X8_isSlot
set_option maxRecDepth 20000 in
theorem ggX8_tells_X8_in : GoodIn wsX8_tells wsX8_in := goodIn_r _ [10] (by decide +kernel) (by decide +kernel)
set_option maxRecDepth 20000 in
theorem gX8_tells_X8_in : GoodIn wsX8_tells (va_wsS RX8 43 yX8_in wsX8_in) := goodIn_app (goodIn_of _ (by decide +kernel)) ggX8_tells_X8_in
set_option maxRecDepth 20000 in
theorem ggX8_tells_X8_note : GoodIn wsX8_tells wsX8_note := goodIn_r _ [14, 15, 16, 2, 21, 22, 23, 24, 25, 26, 27, 28, 29, 30, 31, 32, 33, 34, 35, 36, 37] (by decide +kernel) (by decide +kernel)
set_option maxRecDepth 20000 in
theorem gX8_tells_X8_note : GoodIn wsX8_tells (wsV RX8 92 RX8 yX8_note wsX8_note) := goodIn_app (goodIn_of _ (by decide +kernel)) ggX8_tells_X8_note
set_option maxRecDepth 20000 in
theorem ggX8_tells_X8_manyOf : GoodIn wsX8_tells wsX8_manyOf := goodIn_r _ [20, 2, 21, 22, 23, 24, 25, 26, 27, 28, 29, 30, 31, 32, 33, 34, 35, 36, 37] (by decide +kernel) (by decide +kernel)
set_option maxRecDepth 20000 in
theorem gX8_tells_X8_manyOf : GoodIn wsX8_tells (wsV RX8 74 RX8 yX8_manyOf wsX8_manyOf) := goodIn_app (goodIn_of _ (by decide +kernel)) ggX8_tells_X8_manyOf
theorem dX8_tells_0 : decode cX8_tells 0 = .ok (.iload_n 1, 1) := by decide +kernel
theorem dX8_tells_1 : decode cX8_tells 1 = .ok (.invokestatic 87, 3) := by decide +kernel
theorem dX8_tells_4 : decode cX8_tells 4 = .ok (.ifCond .eq 15, 3) := by decide +kernel
theorem dX8_tells_7 : decode cX8_tells 7 = .ok (.iload_n 2, 1) := by decide +kernel
theorem dX8_tells_8 : decode cX8_tells 8 = .ok (.i2l, 1) := by decide +kernel
theorem dX8_tells_9 : decode cX8_tells 9 = .ok (.lconst 0, 1) := by decide +kernel
theorem dX8_tells_10 : decode cX8_tells 10 = .ok (.ldc2_w 90, 3) := by decide +kernel
theorem dX8_tells_13 : decode cX8_tells 13 = .ok (.invokestatic 43, 3) := by decide +kernel
theorem dX8_tells_16 : decode cX8_tells 16 = .ok (.ifCond .ne 5, 3) := by decide +kernel
theorem dX8_tells_19 : decode cX8_tells 19 = .ok (.iconst (-1), 1) := by decide +kernel
theorem dX8_tells_20 : decode cX8_tells 20 = .ok (.ireturn, 1) := by decide +kernel
theorem dX8_tells_21 : decode cX8_tells 21 = .ok (.aload_n 0, 1) := by decide +kernel
theorem dX8_tells_22 : decode cX8_tells 22 = .ok (.getfield 13, 3) := by decide +kernel
theorem dX8_tells_25 : decode cX8_tells 25 = .ok (.bipush 41, 2) := by decide +kernel
theorem dX8_tells_27 : decode cX8_tells 27 = .ok (.iload_n 1, 1) := by decide +kernel
theorem dX8_tells_28 : decode cX8_tells 28 = .ok (.imul, 1) := by decide +kernel
theorem dX8_tells_29 : decode cX8_tells 29 = .ok (.iload_n 2, 1) := by decide +kernel
theorem dX8_tells_30 : decode cX8_tells 30 = .ok (.iadd, 1) := by decide +kernel
theorem dX8_tells_31 : decode cX8_tells 31 = .ok (.baload, 1) := by decide +kernel
theorem dX8_tells_32 : decode cX8_tells 32 = .ok (.iload_n 3, 1) := by decide +kernel
theorem dX8_tells_33 : decode cX8_tells 33 = .ok (.if_icmp .ne 6, 3) := by decide +kernel
theorem dX8_tells_36 : decode cX8_tells 36 = .ok (.bipush (-2), 2) := by decide +kernel
theorem dX8_tells_38 : decode cX8_tells 38 = .ok (.ireturn, 1) := by decide +kernel
theorem dX8_tells_39 : decode cX8_tells 39 = .ok (.aload_n 0, 1) := by decide +kernel
theorem dX8_tells_40 : decode cX8_tells 40 = .ok (.invokevirtual 92, 3) := by decide +kernel
theorem dX8_tells_43 : decode cX8_tells 43 = .ok (.aload_n 0, 1) := by decide +kernel
theorem dX8_tells_44 : decode cX8_tells 44 = .ok (.getfield 13, 3) := by decide +kernel
theorem dX8_tells_47 : decode cX8_tells 47 = .ok (.bipush 41, 2) := by decide +kernel
theorem dX8_tells_49 : decode cX8_tells 49 = .ok (.iload_n 1, 1) := by decide +kernel
theorem dX8_tells_50 : decode cX8_tells 50 = .ok (.imul, 1) := by decide +kernel
theorem dX8_tells_51 : decode cX8_tells 51 = .ok (.iload_n 2, 1) := by decide +kernel
theorem dX8_tells_52 : decode cX8_tells 52 = .ok (.iadd, 1) := by decide +kernel
theorem dX8_tells_53 : decode cX8_tells 53 = .ok (.iload_n 3, 1) := by decide +kernel
theorem dX8_tells_54 : decode cX8_tells 54 = .ok (.bastore, 1) := by decide +kernel
theorem dX8_tells_55 : decode cX8_tells 55 = .ok (.aload_n 0, 1) := by decide +kernel
theorem dX8_tells_56 : decode cX8_tells 56 = .ok (.iload_n 1, 1) := by decide +kernel
theorem dX8_tells_57 : decode cX8_tells 57 = .ok (.invokevirtual 74, 3) := by decide +kernel
theorem dX8_tells_60 : decode cX8_tells 60 = .ok (.ireturn, 1) := by decide +kernel
set_option maxRecDepth 20000 in
theorem ggX8_put_X8_tells : GoodIn wsX8_put wsX8_tells := goodIn_r _ [5, 6, 7, 8, 9, 4, 10, 11, 12, 13, 14, 15, 16, 17, 18, 19, 20, 21, 22, 23, 24, 25, 26, 27, 28, 29, 30, 31, 32, 33, 34, 35, 36, 37, 38, 39, 40, 41] (by decide +kernel) (by decide +kernel)
set_option maxRecDepth 20000 in
theorem gX8_put_X8_tells : GoodIn wsX8_put (wsV RX8 95 RX8 yX8_tells wsX8_tells) := goodIn_app (goodIn_of _ (by decide +kernel)) ggX8_put_X8_tells
theorem dX8_put_0 : decode cX8_put 0 = .ok (.aload_n 0, 1) := by decide +kernel
theorem dX8_put_1 : decode cX8_put 1 = .ok (.iload_n 1, 1) := by decide +kernel
theorem dX8_put_2 : decode cX8_put 2 = .ok (.iload_n 2, 1) := by decide +kernel
theorem dX8_put_3 : decode cX8_put 3 = .ok (.iconst 1, 1) := by decide +kernel
theorem dX8_put_4 : decode cX8_put 4 = .ok (.invokevirtual 95, 3) := by decide +kernel
theorem dX8_put_7 : decode cX8_put 7 = .ok (.ireturn, 1) := by decide +kernel
set_option maxRecDepth 20000 in
theorem ggX8_take_X8_tells : GoodIn wsX8_take wsX8_tells := goodIn_r _ [5, 6, 7, 8, 9, 4, 10, 11, 12, 13, 14, 15, 16, 17, 18, 19, 20, 21, 22, 23, 24, 25, 26, 27, 28, 29, 30, 31, 32, 33, 34, 35, 36, 37, 38, 39, 40, 41] (by decide +kernel) (by decide +kernel)
set_option maxRecDepth 20000 in
theorem gX8_take_X8_tells : GoodIn wsX8_take (wsV RX8 95 RX8 yX8_tells wsX8_tells) := goodIn_app (goodIn_of _ (by decide +kernel)) ggX8_take_X8_tells
theorem dX8_take_0 : decode cX8_take 0 = .ok (.aload_n 0, 1) := by decide +kernel
theorem dX8_take_1 : decode cX8_take 1 = .ok (.iload_n 1, 1) := by decide +kernel
theorem dX8_take_2 : decode cX8_take 2 = .ok (.iload_n 2, 1) := by decide +kernel
theorem dX8_take_3 : decode cX8_take 3 = .ok (.iconst 0, 1) := by decide +kernel
theorem dX8_take_4 : decode cX8_take 4 = .ok (.invokevirtual 95, 3) := by decide +kernel
theorem dX8_take_7 : decode cX8_take 7 = .ok (.ireturn, 1) := by decide +kernel
theorem dX8_lists_0 : decode cX8_lists 0 = .ok (.iconst 0, 1) := by decide +kernel
theorem dX8_lists_1 : decode cX8_lists 1 = .ok (.istore_n 3, 1) := by decide +kernel
theorem dX8_lists_2 : decode cX8_lists 2 = .ok (.iconst 0, 1) := by decide +kernel
theorem dX8_lists_3 : decode cX8_lists 3 = .ok (.istore 4, 2) := by decide +kernel
theorem dX8_lists_5 : decode cX8_lists 5 = .ok (.iload 4, 2) := by decide +kernel
theorem dX8_lists_7 : decode cX8_lists 7 = .ok (.bipush 41, 2) := by decide +kernel
theorem dX8_lists_9 : decode cX8_lists 9 = .ok (.if_icmp .ge 32, 3) := by decide +kernel
theorem dX8_lists_12 : decode cX8_lists 12 = .ok (.aload_n 0, 1) := by decide +kernel
theorem dX8_lists_13 : decode cX8_lists 13 = .ok (.getfield 13, 3) := by decide +kernel
theorem dX8_lists_16 : decode cX8_lists 16 = .ok (.bipush 41, 2) := by decide +kernel
theorem dX8_lists_18 : decode cX8_lists 18 = .ok (.iload_n 1, 1) := by decide +kernel
theorem dX8_lists_19 : decode cX8_lists 19 = .ok (.imul, 1) := by decide +kernel
theorem dX8_lists_20 : decode cX8_lists 20 = .ok (.iload 4, 2) := by decide +kernel
theorem dX8_lists_22 : decode cX8_lists 22 = .ok (.iadd, 1) := by decide +kernel
theorem dX8_lists_23 : decode cX8_lists 23 = .ok (.baload, 1) := by decide +kernel
theorem dX8_lists_24 : decode cX8_lists 24 = .ok (.ifCond .eq 11, 3) := by decide +kernel
theorem dX8_lists_27 : decode cX8_lists 27 = .ok (.aload_n 2, 1) := by decide +kernel
theorem dX8_lists_28 : decode cX8_lists 28 = .ok (.iload_n 3, 1) := by decide +kernel
theorem dX8_lists_29 : decode cX8_lists 29 = .ok (.iload 4, 2) := by decide +kernel
theorem dX8_lists_31 : decode cX8_lists 31 = .ok (.iastore, 1) := by decide +kernel
theorem dX8_lists_32 : decode cX8_lists 32 = .ok (.iinc 3 1, 3) := by decide +kernel
theorem dX8_lists_35 : decode cX8_lists 35 = .ok (.iinc 4 1, 3) := by decide +kernel
theorem dX8_lists_38 : decode cX8_lists 38 = .ok (.goto (-33), 3) := by decide +kernel
theorem dX8_lists_41 : decode cX8_lists 41 = .ok (.iload_n 3, 1) := by decide +kernel
theorem dX8_lists_42 : decode cX8_lists 42 = .ok (.ireturn, 1) := by decide +kernel
theorem dX8_ones_0 : decode cX8_ones 0 = .ok (.iconst 0, 1) := by decide +kernel
theorem dX8_ones_1 : decode cX8_ones 1 = .ok (.istore_n 2, 1) := by decide +kernel
theorem dX8_ones_2 : decode cX8_ones 2 = .ok (.iconst 0, 1) := by decide +kernel
theorem dX8_ones_3 : decode cX8_ones 3 = .ok (.istore_n 3, 1) := by decide +kernel
theorem dX8_ones_4 : decode cX8_ones 4 = .ok (.iload_n 3, 1) := by decide +kernel
theorem dX8_ones_5 : decode cX8_ones 5 = .ok (.sipush 241, 3) := by decide +kernel
theorem dX8_ones_8 : decode cX8_ones 8 = .ok (.if_icmp .ge 23, 3) := by decide +kernel
theorem dX8_ones_11 : decode cX8_ones 11 = .ok (.iload_n 2, 1) := by decide +kernel
theorem dX8_ones_12 : decode cX8_ones 12 = .ok (.aload_n 1, 1) := by decide +kernel
theorem dX8_ones_13 : decode cX8_ones 13 = .ok (.iload_n 3, 1) := by decide +kernel
theorem dX8_ones_14 : decode cX8_ones 14 = .ok (.baload, 1) := by decide +kernel
theorem dX8_ones_15 : decode cX8_ones 15 = .ok (.ifCond .eq 7, 3) := by decide +kernel
theorem dX8_ones_18 : decode cX8_ones 18 = .ok (.iconst 1, 1) := by decide +kernel
theorem dX8_ones_19 : decode cX8_ones 19 = .ok (.goto 4, 3) := by decide +kernel
theorem dX8_ones_22 : decode cX8_ones 22 = .ok (.iconst 0, 1) := by decide +kernel
theorem dX8_ones_23 : decode cX8_ones 23 = .ok (.iadd, 1) := by decide +kernel
theorem dX8_ones_24 : decode cX8_ones 24 = .ok (.istore_n 2, 1) := by decide +kernel
theorem dX8_ones_25 : decode cX8_ones 25 = .ok (.iinc 3 1, 3) := by decide +kernel
theorem dX8_ones_28 : decode cX8_ones 28 = .ok (.goto (-24), 3) := by decide +kernel
theorem dX8_ones_31 : decode cX8_ones 31 = .ok (.iload_n 2, 1) := by decide +kernel
theorem dX8_ones_32 : decode cX8_ones 32 = .ok (.ireturn, 1) := by decide +kernel
set_option maxRecDepth 20000 in
theorem ggX8_adds_X8_lists : GoodIn wsX8_adds wsX8_lists := goodIn_r _ [8, 9, 14, 15, 16, 17, 18, 19, 20, 21, 22, 23, 24, 25, 26, 27, 28, 29, 30] (by decide +kernel) (by decide +kernel)
set_option maxRecDepth 20000 in
theorem gX8_adds_X8_lists : GoodIn wsX8_adds (wsV RX8 99 RX8 yX8_lists wsX8_lists) := goodIn_app (goodIn_of _ (by decide +kernel)) ggX8_adds_X8_lists
set_option maxRecDepth 20000 in
theorem ggX8_adds_X8_ones : GoodIn wsX8_adds wsX8_ones := goodIn_r _ [13] (by decide +kernel) (by decide +kernel)
set_option maxRecDepth 20000 in
theorem gX8_adds_X8_ones : GoodIn wsX8_adds (wsV RX8 103 RX8 yX8_ones wsX8_ones) := goodIn_app (goodIn_of _ (by decide +kernel)) ggX8_adds_X8_ones
theorem dX8_adds_0 : decode cX8_adds 0 = .ok (.aload_n 0, 1) := by decide +kernel
theorem dX8_adds_1 : decode cX8_adds 1 = .ok (.iload_n 1, 1) := by decide +kernel
theorem dX8_adds_2 : decode cX8_adds 2 = .ok (.aload_n 0, 1) := by decide +kernel
theorem dX8_adds_3 : decode cX8_adds 3 = .ok (.getfield 23, 3) := by decide +kernel
theorem dX8_adds_6 : decode cX8_adds 6 = .ok (.invokevirtual 99, 3) := by decide +kernel
theorem dX8_adds_9 : decode cX8_adds 9 = .ok (.istore 4, 2) := by decide +kernel
theorem dX8_adds_11 : decode cX8_adds 11 = .ok (.aload_n 0, 1) := by decide +kernel
theorem dX8_adds_12 : decode cX8_adds 12 = .ok (.iload_n 2, 1) := by decide +kernel
theorem dX8_adds_13 : decode cX8_adds 13 = .ok (.aload_n 0, 1) := by decide +kernel
theorem dX8_adds_14 : decode cX8_adds 14 = .ok (.getfield 26, 3) := by decide +kernel
theorem dX8_adds_17 : decode cX8_adds 17 = .ok (.invokevirtual 99, 3) := by decide +kernel
theorem dX8_adds_20 : decode cX8_adds 20 = .ok (.istore 5, 2) := by decide +kernel
theorem dX8_adds_22 : decode cX8_adds 22 = .ok (.iconst 0, 1) := by decide +kernel
theorem dX8_adds_23 : decode cX8_adds 23 = .ok (.istore 6, 2) := by decide +kernel
theorem dX8_adds_25 : decode cX8_adds 25 = .ok (.iload 6, 2) := by decide +kernel
theorem dX8_adds_27 : decode cX8_adds 27 = .ok (.sipush 241, 3) := by decide +kernel
theorem dX8_adds_30 : decode cX8_adds 30 = .ok (.if_icmp .ge 17, 3) := by decide +kernel
theorem dX8_adds_33 : decode cX8_adds 33 = .ok (.aload_n 0, 1) := by decide +kernel
theorem dX8_adds_34 : decode cX8_adds 34 = .ok (.getfield 29, 3) := by decide +kernel
theorem dX8_adds_37 : decode cX8_adds 37 = .ok (.iload 6, 2) := by decide +kernel
theorem dX8_adds_39 : decode cX8_adds 39 = .ok (.iconst 0, 1) := by decide +kernel
theorem dX8_adds_40 : decode cX8_adds 40 = .ok (.bastore, 1) := by decide +kernel
theorem dX8_adds_41 : decode cX8_adds 41 = .ok (.iinc 6 1, 3) := by decide +kernel
theorem dX8_adds_44 : decode cX8_adds 44 = .ok (.goto (-19), 3) := by decide +kernel
theorem dX8_adds_47 : decode cX8_adds 47 = .ok (.iconst 0, 1) := by decide +kernel
theorem dX8_adds_48 : decode cX8_adds 48 = .ok (.istore 6, 2) := by decide +kernel
theorem dX8_adds_50 : decode cX8_adds 50 = .ok (.iload 6, 2) := by decide +kernel
theorem dX8_adds_52 : decode cX8_adds 52 = .ok (.iload 4, 2) := by decide +kernel
theorem dX8_adds_54 : decode cX8_adds 54 = .ok (.if_icmp .ge 71, 3) := by decide +kernel
theorem dX8_adds_57 : decode cX8_adds 57 = .ok (.iconst 0, 1) := by decide +kernel
theorem dX8_adds_58 : decode cX8_adds 58 = .ok (.istore 7, 2) := by decide +kernel
theorem dX8_adds_60 : decode cX8_adds 60 = .ok (.iload 7, 2) := by decide +kernel
theorem dX8_adds_62 : decode cX8_adds 62 = .ok (.iload 5, 2) := by decide +kernel
theorem dX8_adds_64 : decode cX8_adds 64 = .ok (.if_icmp .ge 55, 3) := by decide +kernel
theorem dX8_adds_67 : decode cX8_adds 67 = .ok (.aload_n 0, 1) := by decide +kernel
theorem dX8_adds_68 : decode cX8_adds 68 = .ok (.getfield 29, 3) := by decide +kernel
theorem dX8_adds_71 : decode cX8_adds 71 = .ok (.iload_n 3, 1) := by decide +kernel
theorem dX8_adds_72 : decode cX8_adds 72 = .ok (.ifCond .le 21, 3) := by decide +kernel
theorem dX8_adds_75 : decode cX8_adds 75 = .ok (.aload_n 0, 1) := by decide +kernel
theorem dX8_adds_76 : decode cX8_adds 76 = .ok (.getfield 23, 3) := by decide +kernel
theorem dX8_adds_79 : decode cX8_adds 79 = .ok (.iload 6, 2) := by decide +kernel
theorem dX8_adds_81 : decode cX8_adds 81 = .ok (.iaload, 1) := by decide +kernel
theorem dX8_adds_82 : decode cX8_adds 82 = .ok (.aload_n 0, 1) := by decide +kernel
theorem dX8_adds_83 : decode cX8_adds 83 = .ok (.getfield 26, 3) := by decide +kernel
theorem dX8_adds_86 : decode cX8_adds 86 = .ok (.iload 7, 2) := by decide +kernel
theorem dX8_adds_88 : decode cX8_adds 88 = .ok (.iaload, 1) := by decide +kernel
theorem dX8_adds_89 : decode cX8_adds 89 = .ok (.iadd, 1) := by decide +kernel
theorem dX8_adds_90 : decode cX8_adds 90 = .ok (.goto 21, 3) := by decide +kernel
theorem dX8_adds_93 : decode cX8_adds 93 = .ok (.aload_n 0, 1) := by decide +kernel
theorem dX8_adds_94 : decode cX8_adds 94 = .ok (.getfield 23, 3) := by decide +kernel
theorem dX8_adds_97 : decode cX8_adds 97 = .ok (.iload 6, 2) := by decide +kernel
theorem dX8_adds_99 : decode cX8_adds 99 = .ok (.iaload, 1) := by decide +kernel
theorem dX8_adds_100 : decode cX8_adds 100 = .ok (.aload_n 0, 1) := by decide +kernel
theorem dX8_adds_101 : decode cX8_adds 101 = .ok (.getfield 26, 3) := by decide +kernel
theorem dX8_adds_104 : decode cX8_adds 104 = .ok (.iload 7, 2) := by decide +kernel
theorem dX8_adds_106 : decode cX8_adds 106 = .ok (.iaload, 1) := by decide +kernel
theorem dX8_adds_107 : decode cX8_adds 107 = .ok (.isub, 1) := by decide +kernel
theorem dX8_adds_108 : decode cX8_adds 108 = .ok (.bipush 40, 2) := by decide +kernel
theorem dX8_adds_110 : decode cX8_adds 110 = .ok (.iadd, 1) := by decide +kernel
theorem dX8_adds_111 : decode cX8_adds 111 = .ok (.iconst 1, 1) := by decide +kernel
theorem dX8_adds_112 : decode cX8_adds 112 = .ok (.bastore, 1) := by decide +kernel
theorem dX8_adds_113 : decode cX8_adds 113 = .ok (.iinc 7 1, 3) := by decide +kernel
theorem dX8_adds_116 : decode cX8_adds 116 = .ok (.goto (-56), 3) := by decide +kernel
theorem dX8_adds_119 : decode cX8_adds 119 = .ok (.iinc 6 1, 3) := by decide +kernel
theorem dX8_adds_122 : decode cX8_adds 122 = .ok (.goto (-72), 3) := by decide +kernel
theorem dX8_adds_125 : decode cX8_adds 125 = .ok (.aload_n 0, 1) := by decide +kernel
theorem dX8_adds_126 : decode cX8_adds 126 = .ok (.aload_n 0, 1) := by decide +kernel
theorem dX8_adds_127 : decode cX8_adds 127 = .ok (.getfield 29, 3) := by decide +kernel
theorem dX8_adds_130 : decode cX8_adds 130 = .ok (.invokevirtual 103, 3) := by decide +kernel
theorem dX8_adds_133 : decode cX8_adds 133 = .ok (.ireturn, 1) := by decide +kernel
set_option maxRecDepth 20000 in
theorem ggX8_becomes_X8_note : GoodIn wsX8_becomes wsX8_note := goodIn_r _ [7, 8, 9, 1, 14, 15, 16, 17, 18, 19, 20, 21, 22, 23, 24, 25, 26, 27, 28, 29, 30] (by decide +kernel) (by decide +kernel)
set_option maxRecDepth 20000 in
theorem gX8_becomes_X8_note : GoodIn wsX8_becomes (wsV RX8 92 RX8 yX8_note wsX8_note) := goodIn_app (goodIn_of _ (by decide +kernel)) ggX8_becomes_X8_note
set_option maxRecDepth 20000 in
theorem ggX8_becomes_X8_manyOf : GoodIn wsX8_becomes wsX8_manyOf := goodIn_r _ [13, 1, 14, 15, 16, 17, 18, 19, 20, 21, 22, 23, 24, 25, 26, 27, 28, 29, 30] (by decide +kernel) (by decide +kernel)
set_option maxRecDepth 20000 in
theorem gX8_becomes_X8_manyOf : GoodIn wsX8_becomes (wsV RX8 74 RX8 yX8_manyOf wsX8_manyOf) := goodIn_app (goodIn_of _ (by decide +kernel)) ggX8_becomes_X8_manyOf
theorem dX8_becomes_0 : decode cX8_becomes 0 = .ok (.aload_n 0, 1) := by decide +kernel
theorem dX8_becomes_1 : decode cX8_becomes 1 = .ok (.invokevirtual 92, 3) := by decide +kernel
theorem dX8_becomes_4 : decode cX8_becomes 4 = .ok (.iconst 0, 1) := by decide +kernel
theorem dX8_becomes_5 : decode cX8_becomes 5 = .ok (.istore_n 2, 1) := by decide +kernel
theorem dX8_becomes_6 : decode cX8_becomes 6 = .ok (.iload_n 2, 1) := by decide +kernel
theorem dX8_becomes_7 : decode cX8_becomes 7 = .ok (.bipush 41, 2) := by decide +kernel
theorem dX8_becomes_9 : decode cX8_becomes 9 = .ok (.if_icmp .ge 26, 3) := by decide +kernel
theorem dX8_becomes_12 : decode cX8_becomes 12 = .ok (.aload_n 0, 1) := by decide +kernel
theorem dX8_becomes_13 : decode cX8_becomes 13 = .ok (.getfield 13, 3) := by decide +kernel
theorem dX8_becomes_16 : decode cX8_becomes 16 = .ok (.bipush 41, 2) := by decide +kernel
theorem dX8_becomes_18 : decode cX8_becomes 18 = .ok (.iload_n 1, 1) := by decide +kernel
theorem dX8_becomes_19 : decode cX8_becomes 19 = .ok (.imul, 1) := by decide +kernel
theorem dX8_becomes_20 : decode cX8_becomes 20 = .ok (.iload_n 2, 1) := by decide +kernel
theorem dX8_becomes_21 : decode cX8_becomes 21 = .ok (.iadd, 1) := by decide +kernel
theorem dX8_becomes_22 : decode cX8_becomes 22 = .ok (.aload_n 0, 1) := by decide +kernel
theorem dX8_becomes_23 : decode cX8_becomes 23 = .ok (.getfield 29, 3) := by decide +kernel
theorem dX8_becomes_26 : decode cX8_becomes 26 = .ok (.iload_n 2, 1) := by decide +kernel
theorem dX8_becomes_27 : decode cX8_becomes 27 = .ok (.baload, 1) := by decide +kernel
theorem dX8_becomes_28 : decode cX8_becomes 28 = .ok (.bastore, 1) := by decide +kernel
theorem dX8_becomes_29 : decode cX8_becomes 29 = .ok (.iinc 2 1, 3) := by decide +kernel
theorem dX8_becomes_32 : decode cX8_becomes 32 = .ok (.goto (-26), 3) := by decide +kernel
theorem dX8_becomes_35 : decode cX8_becomes 35 = .ok (.aload_n 0, 1) := by decide +kernel
theorem dX8_becomes_36 : decode cX8_becomes 36 = .ok (.iload_n 1, 1) := by decide +kernel
theorem dX8_becomes_37 : decode cX8_becomes 37 = .ok (.invokevirtual 74, 3) := by decide +kernel
theorem dX8_becomes_40 : decode cX8_becomes 40 = .ok (.ireturn, 1) := by decide +kernel
set_option maxRecDepth 20000 in
theorem ggX8_becomeSums_X8_isSlot : GoodIn wsX8_becomeSums wsX8_isSlot := goodIn_r _ [5, 6, 7, 8, 4, 9] (by decide +kernel) (by decide +kernel)
set_option maxRecDepth 20000 in
theorem gX8_becomeSums_X8_isSlot : GoodIn wsX8_becomeSums (va_wsS RX8 87 yX8_isSlot wsX8_isSlot) := goodIn_app (goodIn_of _ (by decide +kernel)) ggX8_becomeSums_X8_isSlot
set_option maxRecDepth 20000 in
theorem ggX8_becomeSums_X8_adds : GoodIn wsX8_becomeSums wsX8_adds := goodIn_r _ [13, 14, 15, 1, 16, 17, 18, 4, 19, 20, 21, 22, 23, 24, 39, 40, 41, 42, 43, 44, 45, 46, 47, 48, 49, 50, 51, 52, 53, 54, 55] (by decide +kernel) (by decide +kernel)
set_option maxRecDepth 20000 in
theorem gX8_becomeSums_X8_adds : GoodIn wsX8_becomeSums (wsV RX8 107 RX8 yX8_adds wsX8_adds) := goodIn_app (goodIn_of _ (by decide +kernel)) ggX8_becomeSums_X8_adds
set_option maxRecDepth 20000 in
theorem ggX8_becomeSums_X8_becomes : GoodIn wsX8_becomeSums wsX8_becomes := goodIn_r _ [28, 20, 1, 29, 30, 31, 4, 32, 33, 34, 35, 36, 37, 38, 39, 40, 41, 42, 43, 44, 45, 46, 47, 48, 49, 50, 51, 52, 53, 54, 55] (by decide +kernel) (by decide +kernel)
set_option maxRecDepth 20000 in
theorem gX8_becomeSums_X8_becomes : GoodIn wsX8_becomeSums (wsV RX8 111 RX8 yX8_becomes wsX8_becomes) := goodIn_app (goodIn_of _ (by decide +kernel)) ggX8_becomeSums_X8_becomes
theorem dX8_becomeSums_0 : decode cX8_becomeSums 0 = .ok (.iload_n 1, 1) := by decide +kernel
theorem dX8_becomeSums_1 : decode cX8_becomeSums 1 = .ok (.invokestatic 87, 3) := by decide +kernel
theorem dX8_becomeSums_4 : decode cX8_becomeSums 4 = .ok (.ifCond .eq 17, 3) := by decide +kernel
theorem dX8_becomeSums_7 : decode cX8_becomeSums 7 = .ok (.iload_n 2, 1) := by decide +kernel
theorem dX8_becomeSums_8 : decode cX8_becomeSums 8 = .ok (.invokestatic 87, 3) := by decide +kernel
theorem dX8_becomeSums_11 : decode cX8_becomeSums 11 = .ok (.ifCond .eq 10, 3) := by decide +kernel
theorem dX8_becomeSums_14 : decode cX8_becomeSums 14 = .ok (.iload_n 3, 1) := by decide +kernel
theorem dX8_becomeSums_15 : decode cX8_becomeSums 15 = .ok (.invokestatic 87, 3) := by decide +kernel
theorem dX8_becomeSums_18 : decode cX8_becomeSums 18 = .ok (.ifCond .ne 5, 3) := by decide +kernel
theorem dX8_becomeSums_21 : decode cX8_becomeSums 21 = .ok (.iconst (-1), 1) := by decide +kernel
theorem dX8_becomeSums_22 : decode cX8_becomeSums 22 = .ok (.ireturn, 1) := by decide +kernel
theorem dX8_becomeSums_23 : decode cX8_becomeSums 23 = .ok (.aload_n 0, 1) := by decide +kernel
theorem dX8_becomeSums_24 : decode cX8_becomeSums 24 = .ok (.iload_n 2, 1) := by decide +kernel
theorem dX8_becomeSums_25 : decode cX8_becomeSums 25 = .ok (.iload_n 3, 1) := by decide +kernel
theorem dX8_becomeSums_26 : decode cX8_becomeSums 26 = .ok (.iconst 1, 1) := by decide +kernel
theorem dX8_becomeSums_27 : decode cX8_becomeSums 27 = .ok (.invokevirtual 107, 3) := by decide +kernel
theorem dX8_becomeSums_30 : decode cX8_becomeSums 30 = .ok (.pop, 1) := by decide +kernel
theorem dX8_becomeSums_31 : decode cX8_becomeSums 31 = .ok (.bipush 41, 2) := by decide +kernel
theorem dX8_becomeSums_33 : decode cX8_becomeSums 33 = .ok (.istore 4, 2) := by decide +kernel
theorem dX8_becomeSums_35 : decode cX8_becomeSums 35 = .ok (.iload 4, 2) := by decide +kernel
theorem dX8_becomeSums_37 : decode cX8_becomeSums 37 = .ok (.sipush 241, 3) := by decide +kernel
theorem dX8_becomeSums_40 : decode cX8_becomeSums 40 = .ok (.if_icmp .ge 22, 3) := by decide +kernel
theorem dX8_becomeSums_43 : decode cX8_becomeSums 43 = .ok (.aload_n 0, 1) := by decide +kernel
theorem dX8_becomeSums_44 : decode cX8_becomeSums 44 = .ok (.getfield 29, 3) := by decide +kernel
theorem dX8_becomeSums_47 : decode cX8_becomeSums 47 = .ok (.iload 4, 2) := by decide +kernel
theorem dX8_becomeSums_49 : decode cX8_becomeSums 49 = .ok (.baload, 1) := by decide +kernel
theorem dX8_becomeSums_50 : decode cX8_becomeSums 50 = .ok (.ifCond .eq 6, 3) := by decide +kernel
theorem dX8_becomeSums_53 : decode cX8_becomeSums 53 = .ok (.bipush (-2), 2) := by decide +kernel
theorem dX8_becomeSums_55 : decode cX8_becomeSums 55 = .ok (.ireturn, 1) := by decide +kernel
theorem dX8_becomeSums_56 : decode cX8_becomeSums 56 = .ok (.iinc 4 1, 3) := by decide +kernel
theorem dX8_becomeSums_59 : decode cX8_becomeSums 59 = .ok (.goto (-24), 3) := by decide +kernel
theorem dX8_becomeSums_62 : decode cX8_becomeSums 62 = .ok (.aload_n 0, 1) := by decide +kernel
theorem dX8_becomeSums_63 : decode cX8_becomeSums 63 = .ok (.iload_n 1, 1) := by decide +kernel
theorem dX8_becomeSums_64 : decode cX8_becomeSums 64 = .ok (.invokevirtual 111, 3) := by decide +kernel
theorem dX8_becomeSums_67 : decode cX8_becomeSums 67 = .ok (.ireturn, 1) := by decide +kernel
set_option maxRecDepth 20000 in
theorem ggX8_move_X8_isSlot : GoodIn wsX8_move wsX8_isSlot := goodIn_r _ [9, 10, 11, 12, 8, 13] (by decide +kernel) (by decide +kernel)
set_option maxRecDepth 20000 in
theorem gX8_move_X8_isSlot : GoodIn wsX8_move (va_wsS RX8 87 yX8_isSlot wsX8_isSlot) := goodIn_app (goodIn_of _ (by decide +kernel)) ggX8_move_X8_isSlot
set_option maxRecDepth 20000 in
theorem ggX8_move_X8_in : GoodIn wsX8_move wsX8_in := goodIn_r _ [13] (by decide +kernel) (by decide +kernel)
set_option maxRecDepth 20000 in
theorem gX8_move_X8_in : GoodIn wsX8_move (va_wsS RX8 43 yX8_in wsX8_in) := goodIn_app (goodIn_of _ (by decide +kernel)) ggX8_move_X8_in
set_option maxRecDepth 20000 in
theorem ggX8_move_X8_lists : GoodIn wsX8_move wsX8_lists := goodIn_r _ [17, 18, 33, 34, 35, 36, 37, 38, 39, 40, 41, 42, 43, 44, 45, 46, 47, 48, 49] (by decide +kernel) (by decide +kernel)
set_option maxRecDepth 20000 in
theorem gX8_move_X8_lists : GoodIn wsX8_move (wsV RX8 99 RX8 yX8_lists wsX8_lists) := goodIn_app (goodIn_of _ (by decide +kernel)) ggX8_move_X8_lists
set_option maxRecDepth 20000 in
theorem ggX8_move_X8_becomes : GoodIn wsX8_move wsX8_becomes := goodIn_r _ [22, 18, 5, 23, 24, 25, 8, 26, 27, 28, 29, 30, 31, 32, 33, 34, 35, 36, 37, 38, 39, 40, 41, 42, 43, 44, 45, 46, 47, 48, 49] (by decide +kernel) (by decide +kernel)
set_option maxRecDepth 20000 in
theorem gX8_move_X8_becomes : GoodIn wsX8_move (wsV RX8 111 RX8 yX8_becomes wsX8_becomes) := goodIn_app (goodIn_of _ (by decide +kernel)) ggX8_move_X8_becomes
theorem dX8_move_0 : decode cX8_move 0 = .ok (.iload_n 1, 1) := by decide +kernel
theorem dX8_move_1 : decode cX8_move 1 = .ok (.invokestatic 87, 3) := by decide +kernel
theorem dX8_move_4 : decode cX8_move 4 = .ok (.ifCond .eq 37, 3) := by decide +kernel
theorem dX8_move_7 : decode cX8_move 7 = .ok (.iload_n 2, 1) := by decide +kernel
theorem dX8_move_8 : decode cX8_move 8 = .ok (.invokestatic 87, 3) := by decide +kernel
theorem dX8_move_11 : decode cX8_move 11 = .ok (.ifCond .eq 30, 3) := by decide +kernel
theorem dX8_move_14 : decode cX8_move 14 = .ok (.iload_n 3, 1) := by decide +kernel
theorem dX8_move_15 : decode cX8_move 15 = .ok (.i2l, 1) := by decide +kernel
theorem dX8_move_16 : decode cX8_move 16 = .ok (.lconst 1, 1) := by decide +kernel
theorem dX8_move_17 : decode cX8_move 17 = .ok (.ldc2_w 114, 3) := by decide +kernel
theorem dX8_move_20 : decode cX8_move 20 = .ok (.invokestatic 43, 3) := by decide +kernel
theorem dX8_move_23 : decode cX8_move 23 = .ok (.ifCond .eq 18, 3) := by decide +kernel
theorem dX8_move_26 : decode cX8_move 26 = .ok (.iload 4, 2) := by decide +kernel
theorem dX8_move_28 : decode cX8_move 28 = .ok (.i2l, 1) := by decide +kernel
theorem dX8_move_29 : decode cX8_move 29 = .ok (.ldc2_w 116, 3) := by decide +kernel
theorem dX8_move_32 : decode cX8_move 32 = .ok (.ldc2_w 90, 3) := by decide +kernel
theorem dX8_move_35 : decode cX8_move 35 = .ok (.invokestatic 43, 3) := by decide +kernel
theorem dX8_move_38 : decode cX8_move 38 = .ok (.ifCond .ne 5, 3) := by decide +kernel
theorem dX8_move_41 : decode cX8_move 41 = .ok (.iconst (-1), 1) := by decide +kernel
theorem dX8_move_42 : decode cX8_move 42 = .ok (.ireturn, 1) := by decide +kernel
theorem dX8_move_43 : decode cX8_move 43 = .ok (.aload_n 0, 1) := by decide +kernel
theorem dX8_move_44 : decode cX8_move 44 = .ok (.iload_n 2, 1) := by decide +kernel
theorem dX8_move_45 : decode cX8_move 45 = .ok (.aload_n 0, 1) := by decide +kernel
theorem dX8_move_46 : decode cX8_move 46 = .ok (.getfield 23, 3) := by decide +kernel
theorem dX8_move_49 : decode cX8_move 49 = .ok (.invokevirtual 99, 3) := by decide +kernel
theorem dX8_move_52 : decode cX8_move 52 = .ok (.istore 5, 2) := by decide +kernel
theorem dX8_move_54 : decode cX8_move 54 = .ok (.iconst 0, 1) := by decide +kernel
theorem dX8_move_55 : decode cX8_move 55 = .ok (.istore 6, 2) := by decide +kernel
theorem dX8_move_57 : decode cX8_move 57 = .ok (.iload 6, 2) := by decide +kernel
theorem dX8_move_59 : decode cX8_move 59 = .ok (.sipush 241, 3) := by decide +kernel
theorem dX8_move_62 : decode cX8_move 62 = .ok (.if_icmp .ge 17, 3) := by decide +kernel
theorem dX8_move_65 : decode cX8_move 65 = .ok (.aload_n 0, 1) := by decide +kernel
theorem dX8_move_66 : decode cX8_move 66 = .ok (.getfield 29, 3) := by decide +kernel
theorem dX8_move_69 : decode cX8_move 69 = .ok (.iload 6, 2) := by decide +kernel
theorem dX8_move_71 : decode cX8_move 71 = .ok (.iconst 0, 1) := by decide +kernel
theorem dX8_move_72 : decode cX8_move 72 = .ok (.bastore, 1) := by decide +kernel
theorem dX8_move_73 : decode cX8_move 73 = .ok (.iinc 6 1, 3) := by decide +kernel
theorem dX8_move_76 : decode cX8_move 76 = .ok (.goto (-19), 3) := by decide +kernel
theorem dX8_move_79 : decode cX8_move 79 = .ok (.iconst 0, 1) := by decide +kernel
theorem dX8_move_80 : decode cX8_move 80 = .ok (.istore 6, 2) := by decide +kernel
theorem dX8_move_82 : decode cX8_move 82 = .ok (.iload 6, 2) := by decide +kernel
theorem dX8_move_84 : decode cX8_move 84 = .ok (.iload 5, 2) := by decide +kernel
theorem dX8_move_86 : decode cX8_move 86 = .ok (.if_icmp .ge 47, 3) := by decide +kernel
theorem dX8_move_89 : decode cX8_move 89 = .ok (.iload_n 3, 1) := by decide +kernel
theorem dX8_move_90 : decode cX8_move 90 = .ok (.aload_n 0, 1) := by decide +kernel
theorem dX8_move_91 : decode cX8_move 91 = .ok (.getfield 23, 3) := by decide +kernel
theorem dX8_move_94 : decode cX8_move 94 = .ok (.iload 6, 2) := by decide +kernel
theorem dX8_move_96 : decode cX8_move 96 = .ok (.iaload, 1) := by decide +kernel
theorem dX8_move_97 : decode cX8_move 97 = .ok (.imul, 1) := by decide +kernel
theorem dX8_move_98 : decode cX8_move 98 = .ok (.iload 4, 2) := by decide +kernel
theorem dX8_move_100 : decode cX8_move 100 = .ok (.iadd, 1) := by decide +kernel
theorem dX8_move_101 : decode cX8_move 101 = .ok (.istore 7, 2) := by decide +kernel
theorem dX8_move_103 : decode cX8_move 103 = .ok (.iload 7, 2) := by decide +kernel
theorem dX8_move_105 : decode cX8_move 105 = .ok (.i2l, 1) := by decide +kernel
theorem dX8_move_106 : decode cX8_move 106 = .ok (.lconst 0, 1) := by decide +kernel
theorem dX8_move_107 : decode cX8_move 107 = .ok (.ldc2_w 90, 3) := by decide +kernel
theorem dX8_move_110 : decode cX8_move 110 = .ok (.invokestatic 43, 3) := by decide +kernel
theorem dX8_move_113 : decode cX8_move 113 = .ok (.ifCond .ne 6, 3) := by decide +kernel
theorem dX8_move_116 : decode cX8_move 116 = .ok (.bipush (-2), 2) := by decide +kernel
theorem dX8_move_118 : decode cX8_move 118 = .ok (.ireturn, 1) := by decide +kernel
theorem dX8_move_119 : decode cX8_move 119 = .ok (.aload_n 0, 1) := by decide +kernel
theorem dX8_move_120 : decode cX8_move 120 = .ok (.getfield 29, 3) := by decide +kernel
theorem dX8_move_123 : decode cX8_move 123 = .ok (.iload 7, 2) := by decide +kernel
theorem dX8_move_125 : decode cX8_move 125 = .ok (.iconst 1, 1) := by decide +kernel
theorem dX8_move_126 : decode cX8_move 126 = .ok (.bastore, 1) := by decide +kernel
theorem dX8_move_127 : decode cX8_move 127 = .ok (.iinc 6 1, 3) := by decide +kernel
theorem dX8_move_130 : decode cX8_move 130 = .ok (.goto (-48), 3) := by decide +kernel
theorem dX8_move_133 : decode cX8_move 133 = .ok (.aload_n 0, 1) := by decide +kernel
theorem dX8_move_134 : decode cX8_move 134 = .ok (.iload_n 1, 1) := by decide +kernel
theorem dX8_move_135 : decode cX8_move 135 = .ok (.invokevirtual 111, 3) := by decide +kernel
theorem dX8_move_138 : decode cX8_move 138 = .ok (.ireturn, 1) := by decide +kernel
theorem dX8_told_0 : decode cX8_told 0 = .ok (.iload_n 2, 1) := by decide +kernel
theorem dX8_told_1 : decode cX8_told 1 = .ok (.ifCond .lt 8, 3) := by decide +kernel
theorem dX8_told_4 : decode cX8_told 4 = .ok (.iload_n 2, 1) := by decide +kernel
theorem dX8_told_5 : decode cX8_told 5 = .ok (.iload_n 1, 1) := by decide +kernel
theorem dX8_told_6 : decode cX8_told 6 = .ok (.if_icmp .lt 14, 3) := by decide +kernel
theorem dX8_told_9 : decode cX8_told 9 = .ok (.iload_n 2, 1) := by decide +kernel
theorem dX8_told_10 : decode cX8_told 10 = .ok (.ifCond .ge 7, 3) := by decide +kernel
theorem dX8_told_13 : decode cX8_told 13 = .ok (.iload_n 1, 1) := by decide +kernel
theorem dX8_told_14 : decode cX8_told 14 = .ok (.goto 5, 3) := by decide +kernel
theorem dX8_told_17 : decode cX8_told 17 = .ok (.bipush (-4), 2) := by decide +kernel
theorem dX8_told_19 : decode cX8_told 19 = .ok (.ireturn, 1) := by decide +kernel
theorem dX8_told_20 : decode cX8_told 20 = .ok (.iload_n 2, 1) := by decide +kernel
theorem dX8_told_21 : decode cX8_told 21 = .ok (.istore_n 3, 1) := by decide +kernel
theorem dX8_told_22 : decode cX8_told 22 = .ok (.iconst 0, 1) := by decide +kernel
theorem dX8_told_23 : decode cX8_told 23 = .ok (.istore 4, 2) := by decide +kernel
theorem dX8_told_25 : decode cX8_told 25 = .ok (.iload_n 3, 1) := by decide +kernel
theorem dX8_told_26 : decode cX8_told 26 = .ok (.ifCond .gt 13, 3) := by decide +kernel
theorem dX8_told_29 : decode cX8_told 29 = .ok (.aload_n 0, 1) := by decide +kernel
theorem dX8_told_30 : decode cX8_told 30 = .ok (.getfield 29, 3) := by decide +kernel
theorem dX8_told_33 : decode cX8_told 33 = .ok (.iload 4, 2) := by decide +kernel
theorem dX8_told_35 : decode cX8_told 35 = .ok (.baload, 1) := by decide +kernel
theorem dX8_told_36 : decode cX8_told 36 = .ok (.ifCond .ne 27, 3) := by decide +kernel
theorem dX8_told_39 : decode cX8_told 39 = .ok (.iload_n 3, 1) := by decide +kernel
theorem dX8_told_40 : decode cX8_told 40 = .ok (.aload_n 0, 1) := by decide +kernel
theorem dX8_told_41 : decode cX8_told 41 = .ok (.getfield 29, 3) := by decide +kernel
theorem dX8_told_44 : decode cX8_told 44 = .ok (.iload 4, 2) := by decide +kernel
theorem dX8_told_46 : decode cX8_told 46 = .ok (.baload, 1) := by decide +kernel
theorem dX8_told_47 : decode cX8_told 47 = .ok (.ifCond .eq 7, 3) := by decide +kernel
theorem dX8_told_50 : decode cX8_told 50 = .ok (.iconst 1, 1) := by decide +kernel
theorem dX8_told_51 : decode cX8_told 51 = .ok (.goto 4, 3) := by decide +kernel
theorem dX8_told_54 : decode cX8_told 54 = .ok (.iconst 0, 1) := by decide +kernel
theorem dX8_told_55 : decode cX8_told 55 = .ok (.isub, 1) := by decide +kernel
theorem dX8_told_56 : decode cX8_told 56 = .ok (.istore_n 3, 1) := by decide +kernel
theorem dX8_told_57 : decode cX8_told 57 = .ok (.iinc 4 1, 3) := by decide +kernel
theorem dX8_told_60 : decode cX8_told 60 = .ok (.goto (-35), 3) := by decide +kernel
theorem dX8_told_63 : decode cX8_told 63 = .ok (.iload 4, 2) := by decide +kernel
theorem dX8_told_65 : decode cX8_told 65 = .ok (.ireturn, 1) := by decide +kernel
set_option maxRecDepth 20000 in
theorem ggX8_member_X8_isSlot : GoodIn wsX8_member wsX8_isSlot := goodIn_r _ [5, 6, 7, 8, 4, 9] (by decide +kernel) (by decide +kernel)
set_option maxRecDepth 20000 in
theorem gX8_member_X8_isSlot : GoodIn wsX8_member (va_wsS RX8 87 yX8_isSlot wsX8_isSlot) := goodIn_app (goodIn_of _ (by decide +kernel)) ggX8_member_X8_isSlot
set_option maxRecDepth 20000 in
theorem ggX8_member_X8_lists : GoodIn wsX8_member wsX8_lists := goodIn_r _ [13, 14, 15, 16, 17, 18, 19, 20, 21, 22, 23, 24, 25, 26, 27, 28, 29, 30, 31] (by decide +kernel) (by decide +kernel)
set_option maxRecDepth 20000 in
theorem gX8_member_X8_lists : GoodIn wsX8_member (wsV RX8 99 RX8 yX8_lists wsX8_lists) := goodIn_app (goodIn_of _ (by decide +kernel)) ggX8_member_X8_lists
theorem dX8_member_0 : decode cX8_member 0 = .ok (.iload_n 1, 1) := by decide +kernel
theorem dX8_member_1 : decode cX8_member 1 = .ok (.invokestatic 87, 3) := by decide +kernel
theorem dX8_member_4 : decode cX8_member 4 = .ok (.ifCond .eq 8, 3) := by decide +kernel
theorem dX8_member_7 : decode cX8_member 7 = .ok (.iload_n 2, 1) := by decide +kernel
theorem dX8_member_8 : decode cX8_member 8 = .ok (.iconst (-1), 1) := by decide +kernel
theorem dX8_member_9 : decode cX8_member 9 = .ok (.if_icmp .ge 5, 3) := by decide +kernel
theorem dX8_member_12 : decode cX8_member 12 = .ok (.iconst (-1), 1) := by decide +kernel
theorem dX8_member_13 : decode cX8_member 13 = .ok (.ireturn, 1) := by decide +kernel
theorem dX8_member_14 : decode cX8_member 14 = .ok (.aload_n 0, 1) := by decide +kernel
theorem dX8_member_15 : decode cX8_member 15 = .ok (.iload_n 1, 1) := by decide +kernel
theorem dX8_member_16 : decode cX8_member 16 = .ok (.aload_n 0, 1) := by decide +kernel
theorem dX8_member_17 : decode cX8_member 17 = .ok (.getfield 23, 3) := by decide +kernel
theorem dX8_member_20 : decode cX8_member 20 = .ok (.invokevirtual 99, 3) := by decide +kernel
theorem dX8_member_23 : decode cX8_member 23 = .ok (.istore_n 3, 1) := by decide +kernel
theorem dX8_member_24 : decode cX8_member 24 = .ok (.iload_n 2, 1) := by decide +kernel
theorem dX8_member_25 : decode cX8_member 25 = .ok (.ifCond .ge 7, 3) := by decide +kernel
theorem dX8_member_28 : decode cX8_member 28 = .ok (.iload_n 3, 1) := by decide +kernel
theorem dX8_member_29 : decode cX8_member 29 = .ok (.goto 19, 3) := by decide +kernel
theorem dX8_member_32 : decode cX8_member 32 = .ok (.iload_n 2, 1) := by decide +kernel
theorem dX8_member_33 : decode cX8_member 33 = .ok (.iload_n 3, 1) := by decide +kernel
theorem dX8_member_34 : decode cX8_member 34 = .ok (.if_icmp .ge 12, 3) := by decide +kernel
theorem dX8_member_37 : decode cX8_member 37 = .ok (.aload_n 0, 1) := by decide +kernel
theorem dX8_member_38 : decode cX8_member 38 = .ok (.getfield 23, 3) := by decide +kernel
theorem dX8_member_41 : decode cX8_member 41 = .ok (.iload_n 2, 1) := by decide +kernel
theorem dX8_member_42 : decode cX8_member 42 = .ok (.iaload, 1) := by decide +kernel
theorem dX8_member_43 : decode cX8_member 43 = .ok (.goto 5, 3) := by decide +kernel
theorem dX8_member_46 : decode cX8_member 46 = .ok (.bipush (-4), 2) := by decide +kernel
theorem dX8_member_48 : decode cX8_member 48 = .ok (.ireturn, 1) := by decide +kernel
set_option maxRecDepth 20000 in
theorem ggX8_sum_X8_isSlot : GoodIn wsX8_sum wsX8_isSlot := goodIn_r _ [4, 5, 6, 7, 3, 8] (by decide +kernel) (by decide +kernel)
set_option maxRecDepth 20000 in
theorem gX8_sum_X8_isSlot : GoodIn wsX8_sum (va_wsS RX8 87 yX8_isSlot wsX8_isSlot) := goodIn_app (goodIn_of _ (by decide +kernel)) ggX8_sum_X8_isSlot
set_option maxRecDepth 20000 in
theorem ggX8_sum_X8_adds : GoodIn wsX8_sum wsX8_adds := goodIn_r _ [12, 13, 14, 15, 16, 17, 18, 3, 19, 20, 21, 22, 23, 24, 29, 30, 31, 32, 33, 34, 35, 36, 37, 38, 39, 40, 41, 42, 43, 44, 45] (by decide +kernel) (by decide +kernel)
set_option maxRecDepth 20000 in
theorem gX8_sum_X8_adds : GoodIn wsX8_sum (wsV RX8 107 RX8 yX8_adds wsX8_adds) := goodIn_app (goodIn_of _ (by decide +kernel)) ggX8_sum_X8_adds
set_option maxRecDepth 20000 in
theorem ggX8_sum_X8_told : GoodIn wsX8_sum wsX8_told := goodIn_r _ [28, 15, 29, 30, 31, 32, 33, 34, 35, 36, 37, 38, 39, 40, 41, 42, 43, 44, 45] (by decide +kernel) (by decide +kernel)
set_option maxRecDepth 20000 in
theorem gX8_sum_X8_told : GoodIn wsX8_sum (wsV RX8 118 RX8 yX8_told wsX8_told) := goodIn_app (goodIn_of _ (by decide +kernel)) ggX8_sum_X8_told
theorem dX8_sum_0 : decode cX8_sum 0 = .ok (.iload_n 1, 1) := by decide +kernel
theorem dX8_sum_1 : decode cX8_sum 1 = .ok (.invokestatic 87, 3) := by decide +kernel
theorem dX8_sum_4 : decode cX8_sum 4 = .ok (.ifCond .eq 30, 3) := by decide +kernel
theorem dX8_sum_7 : decode cX8_sum 7 = .ok (.iload_n 2, 1) := by decide +kernel
theorem dX8_sum_8 : decode cX8_sum 8 = .ok (.invokestatic 87, 3) := by decide +kernel
theorem dX8_sum_11 : decode cX8_sum 11 = .ok (.ifCond .eq 23, 3) := by decide +kernel
theorem dX8_sum_14 : decode cX8_sum 14 = .ok (.iload_n 3, 1) := by decide +kernel
theorem dX8_sum_15 : decode cX8_sum 15 = .ok (.iconst (-1), 1) := by decide +kernel
theorem dX8_sum_16 : decode cX8_sum 16 = .ok (.if_icmp .lt 18, 3) := by decide +kernel
theorem dX8_sum_19 : decode cX8_sum 19 = .ok (.aload_n 0, 1) := by decide +kernel
theorem dX8_sum_20 : decode cX8_sum 20 = .ok (.aload_n 0, 1) := by decide +kernel
theorem dX8_sum_21 : decode cX8_sum 21 = .ok (.iload_n 1, 1) := by decide +kernel
theorem dX8_sum_22 : decode cX8_sum 22 = .ok (.iload_n 2, 1) := by decide +kernel
theorem dX8_sum_23 : decode cX8_sum 23 = .ok (.iconst 1, 1) := by decide +kernel
theorem dX8_sum_24 : decode cX8_sum 24 = .ok (.invokevirtual 107, 3) := by decide +kernel
theorem dX8_sum_27 : decode cX8_sum 27 = .ok (.iload_n 3, 1) := by decide +kernel
theorem dX8_sum_28 : decode cX8_sum 28 = .ok (.invokevirtual 118, 3) := by decide +kernel
theorem dX8_sum_31 : decode cX8_sum 31 = .ok (.goto 4, 3) := by decide +kernel
theorem dX8_sum_34 : decode cX8_sum 34 = .ok (.iconst (-1), 1) := by decide +kernel
theorem dX8_sum_35 : decode cX8_sum 35 = .ok (.ireturn, 1) := by decide +kernel
set_option maxRecDepth 20000 in
theorem ggX8_difference_X8_isSlot : GoodIn wsX8_difference wsX8_isSlot := goodIn_r _ [4, 5, 6, 7, 3, 8] (by decide +kernel) (by decide +kernel)
set_option maxRecDepth 20000 in
theorem gX8_difference_X8_isSlot : GoodIn wsX8_difference (va_wsS RX8 87 yX8_isSlot wsX8_isSlot) := goodIn_app (goodIn_of _ (by decide +kernel)) ggX8_difference_X8_isSlot
set_option maxRecDepth 20000 in
theorem ggX8_difference_X8_adds : GoodIn wsX8_difference wsX8_adds := goodIn_r _ [12, 13, 14, 15, 16, 17, 18, 3, 19, 20, 21, 22, 23, 24, 29, 30, 31, 32, 33, 34, 35, 36, 37, 38, 39, 40, 41, 42, 43, 44, 45] (by decide +kernel) (by decide +kernel)
set_option maxRecDepth 20000 in
theorem gX8_difference_X8_adds : GoodIn wsX8_difference (wsV RX8 107 RX8 yX8_adds wsX8_adds) := goodIn_app (goodIn_of _ (by decide +kernel)) ggX8_difference_X8_adds
set_option maxRecDepth 20000 in
theorem ggX8_difference_X8_told : GoodIn wsX8_difference wsX8_told := goodIn_r _ [28, 15, 29, 30, 31, 32, 33, 34, 35, 36, 37, 38, 39, 40, 41, 42, 43, 44, 45] (by decide +kernel) (by decide +kernel)
set_option maxRecDepth 20000 in
theorem gX8_difference_X8_told : GoodIn wsX8_difference (wsV RX8 118 RX8 yX8_told wsX8_told) := goodIn_app (goodIn_of _ (by decide +kernel)) ggX8_difference_X8_told
theorem dX8_difference_0 : decode cX8_difference 0 = .ok (.iload_n 1, 1) := by decide +kernel
theorem dX8_difference_1 : decode cX8_difference 1 = .ok (.invokestatic 87, 3) := by decide +kernel
theorem dX8_difference_4 : decode cX8_difference 4 = .ok (.ifCond .eq 30, 3) := by decide +kernel
theorem dX8_difference_7 : decode cX8_difference 7 = .ok (.iload_n 2, 1) := by decide +kernel
theorem dX8_difference_8 : decode cX8_difference 8 = .ok (.invokestatic 87, 3) := by decide +kernel
theorem dX8_difference_11 : decode cX8_difference 11 = .ok (.ifCond .eq 23, 3) := by decide +kernel
theorem dX8_difference_14 : decode cX8_difference 14 = .ok (.iload_n 3, 1) := by decide +kernel
theorem dX8_difference_15 : decode cX8_difference 15 = .ok (.iconst (-1), 1) := by decide +kernel
theorem dX8_difference_16 : decode cX8_difference 16 = .ok (.if_icmp .lt 18, 3) := by decide +kernel
theorem dX8_difference_19 : decode cX8_difference 19 = .ok (.aload_n 0, 1) := by decide +kernel
theorem dX8_difference_20 : decode cX8_difference 20 = .ok (.aload_n 0, 1) := by decide +kernel
theorem dX8_difference_21 : decode cX8_difference 21 = .ok (.iload_n 1, 1) := by decide +kernel
theorem dX8_difference_22 : decode cX8_difference 22 = .ok (.iload_n 2, 1) := by decide +kernel
theorem dX8_difference_23 : decode cX8_difference 23 = .ok (.iconst (-1), 1) := by decide +kernel
theorem dX8_difference_24 : decode cX8_difference 24 = .ok (.invokevirtual 107, 3) := by decide +kernel
theorem dX8_difference_27 : decode cX8_difference 27 = .ok (.iload_n 3, 1) := by decide +kernel
theorem dX8_difference_28 : decode cX8_difference 28 = .ok (.invokevirtual 118, 3) := by decide +kernel
theorem dX8_difference_31 : decode cX8_difference 31 = .ok (.goto 4, 3) := by decide +kernel
theorem dX8_difference_34 : decode cX8_difference 34 = .ok (.iconst (-1), 1) := by decide +kernel
theorem dX8_difference_35 : decode cX8_difference 35 = .ok (.ireturn, 1) := by decide +kernel
set_option maxRecDepth 20000 in
theorem ggX8_times_X8_isSlot : GoodIn wsX8_times wsX8_isSlot := goodIn_r _ [9, 10, 11, 12, 8, 13] (by decide +kernel) (by decide +kernel)
set_option maxRecDepth 20000 in
theorem gX8_times_X8_isSlot : GoodIn wsX8_times (va_wsS RX8 87 yX8_isSlot wsX8_isSlot) := goodIn_app (goodIn_of _ (by decide +kernel)) ggX8_times_X8_isSlot
set_option maxRecDepth 20000 in
theorem ggX8_times_X8_in : GoodIn wsX8_times wsX8_in := goodIn_r _ [13] (by decide +kernel) (by decide +kernel)
set_option maxRecDepth 20000 in
theorem gX8_times_X8_in : GoodIn wsX8_times (va_wsS RX8 43 yX8_in wsX8_in) := goodIn_app (goodIn_of _ (by decide +kernel)) ggX8_times_X8_in
set_option maxRecDepth 20000 in
theorem ggX8_times_X8_lists : GoodIn wsX8_times wsX8_lists := goodIn_r _ [17, 4, 22, 23, 24, 25, 26, 27, 28, 29, 30, 31, 32, 33, 34, 35, 36, 37, 38] (by decide +kernel) (by decide +kernel)
set_option maxRecDepth 20000 in
theorem gX8_times_X8_lists : GoodIn wsX8_times (wsV RX8 99 RX8 yX8_lists wsX8_lists) := goodIn_app (goodIn_of _ (by decide +kernel)) ggX8_times_X8_lists
set_option maxRecDepth 20000 in
theorem ggX8_times_X8_ones : GoodIn wsX8_times wsX8_ones := goodIn_r _ [21] (by decide +kernel) (by decide +kernel)
set_option maxRecDepth 20000 in
theorem gX8_times_X8_ones : GoodIn wsX8_times (wsV RX8 103 RX8 yX8_ones wsX8_ones) := goodIn_app (goodIn_of _ (by decide +kernel)) ggX8_times_X8_ones
theorem dX8_times_0 : decode cX8_times 0 = .ok (.iload_n 1, 1) := by decide +kernel
theorem dX8_times_1 : decode cX8_times 1 = .ok (.invokestatic 87, 3) := by decide +kernel
theorem dX8_times_4 : decode cX8_times 4 = .ok (.ifCond .eq 15, 3) := by decide +kernel
theorem dX8_times_7 : decode cX8_times 7 = .ok (.iload_n 2, 1) := by decide +kernel
theorem dX8_times_8 : decode cX8_times 8 = .ok (.i2l, 1) := by decide +kernel
theorem dX8_times_9 : decode cX8_times 9 = .ok (.lconst 1, 1) := by decide +kernel
theorem dX8_times_10 : decode cX8_times 10 = .ok (.ldc2_w 121, 3) := by decide +kernel
theorem dX8_times_13 : decode cX8_times 13 = .ok (.invokestatic 43, 3) := by decide +kernel
theorem dX8_times_16 : decode cX8_times 16 = .ok (.ifCond .ne 5, 3) := by decide +kernel
theorem dX8_times_19 : decode cX8_times 19 = .ok (.iconst (-1), 1) := by decide +kernel
theorem dX8_times_20 : decode cX8_times 20 = .ok (.ireturn, 1) := by decide +kernel
theorem dX8_times_21 : decode cX8_times 21 = .ok (.aload_n 0, 1) := by decide +kernel
theorem dX8_times_22 : decode cX8_times 22 = .ok (.iload_n 1, 1) := by decide +kernel
theorem dX8_times_23 : decode cX8_times 23 = .ok (.aload_n 0, 1) := by decide +kernel
theorem dX8_times_24 : decode cX8_times 24 = .ok (.getfield 23, 3) := by decide +kernel
theorem dX8_times_27 : decode cX8_times 27 = .ok (.invokevirtual 99, 3) := by decide +kernel
theorem dX8_times_30 : decode cX8_times 30 = .ok (.istore_n 3, 1) := by decide +kernel
theorem dX8_times_31 : decode cX8_times 31 = .ok (.iconst 0, 1) := by decide +kernel
theorem dX8_times_32 : decode cX8_times 32 = .ok (.istore 4, 2) := by decide +kernel
theorem dX8_times_34 : decode cX8_times 34 = .ok (.iload 4, 2) := by decide +kernel
theorem dX8_times_36 : decode cX8_times 36 = .ok (.sipush 241, 3) := by decide +kernel
theorem dX8_times_39 : decode cX8_times 39 = .ok (.if_icmp .ge 43, 3) := by decide +kernel
theorem dX8_times_42 : decode cX8_times 42 = .ok (.aload_n 0, 1) := by decide +kernel
theorem dX8_times_43 : decode cX8_times 43 = .ok (.getfield 29, 3) := by decide +kernel
theorem dX8_times_46 : decode cX8_times 46 = .ok (.iload 4, 2) := by decide +kernel
theorem dX8_times_48 : decode cX8_times 48 = .ok (.iload 4, 2) := by decide +kernel
theorem dX8_times_50 : decode cX8_times 50 = .ok (.bipush 41, 2) := by decide +kernel
theorem dX8_times_52 : decode cX8_times 52 = .ok (.if_icmp .ge 22, 3) := by decide +kernel
theorem dX8_times_55 : decode cX8_times 55 = .ok (.aload_n 0, 1) := by decide +kernel
theorem dX8_times_56 : decode cX8_times 56 = .ok (.getfield 13, 3) := by decide +kernel
theorem dX8_times_59 : decode cX8_times 59 = .ok (.bipush 41, 2) := by decide +kernel
theorem dX8_times_61 : decode cX8_times 61 = .ok (.iload_n 1, 1) := by decide +kernel
theorem dX8_times_62 : decode cX8_times 62 = .ok (.imul, 1) := by decide +kernel
theorem dX8_times_63 : decode cX8_times 63 = .ok (.iload 4, 2) := by decide +kernel
theorem dX8_times_65 : decode cX8_times 65 = .ok (.iadd, 1) := by decide +kernel
theorem dX8_times_66 : decode cX8_times 66 = .ok (.baload, 1) := by decide +kernel
theorem dX8_times_67 : decode cX8_times 67 = .ok (.ifCond .eq 7, 3) := by decide +kernel
theorem dX8_times_70 : decode cX8_times 70 = .ok (.iconst 1, 1) := by decide +kernel
theorem dX8_times_71 : decode cX8_times 71 = .ok (.goto 4, 3) := by decide +kernel
theorem dX8_times_74 : decode cX8_times 74 = .ok (.iconst 0, 1) := by decide +kernel
theorem dX8_times_75 : decode cX8_times 75 = .ok (.bastore, 1) := by decide +kernel
theorem dX8_times_76 : decode cX8_times 76 = .ok (.iinc 4 1, 3) := by decide +kernel
theorem dX8_times_79 : decode cX8_times 79 = .ok (.goto (-45), 3) := by decide +kernel
theorem dX8_times_82 : decode cX8_times 82 = .ok (.iconst 1, 1) := by decide +kernel
theorem dX8_times_83 : decode cX8_times 83 = .ok (.istore 4, 2) := by decide +kernel
theorem dX8_times_85 : decode cX8_times 85 = .ok (.iload 4, 2) := by decide +kernel
theorem dX8_times_87 : decode cX8_times 87 = .ok (.iload_n 2, 1) := by decide +kernel
theorem dX8_times_88 : decode cX8_times 88 = .ok (.if_icmp .ge 106, 3) := by decide +kernel
theorem dX8_times_91 : decode cX8_times 91 = .ok (.iconst 0, 1) := by decide +kernel
theorem dX8_times_92 : decode cX8_times 92 = .ok (.istore 5, 2) := by decide +kernel
theorem dX8_times_94 : decode cX8_times 94 = .ok (.iload 5, 2) := by decide +kernel
theorem dX8_times_96 : decode cX8_times 96 = .ok (.sipush 241, 3) := by decide +kernel
theorem dX8_times_99 : decode cX8_times 99 = .ok (.if_icmp .ge 31, 3) := by decide +kernel
theorem dX8_times_102 : decode cX8_times 102 = .ok (.aload_n 0, 1) := by decide +kernel
theorem dX8_times_103 : decode cX8_times 103 = .ok (.getfield 32, 3) := by decide +kernel
theorem dX8_times_106 : decode cX8_times 106 = .ok (.iload 5, 2) := by decide +kernel
theorem dX8_times_108 : decode cX8_times 108 = .ok (.aload_n 0, 1) := by decide +kernel
theorem dX8_times_109 : decode cX8_times 109 = .ok (.getfield 29, 3) := by decide +kernel
theorem dX8_times_112 : decode cX8_times 112 = .ok (.iload 5, 2) := by decide +kernel
theorem dX8_times_114 : decode cX8_times 114 = .ok (.baload, 1) := by decide +kernel
theorem dX8_times_115 : decode cX8_times 115 = .ok (.bastore, 1) := by decide +kernel
theorem dX8_times_116 : decode cX8_times 116 = .ok (.aload_n 0, 1) := by decide +kernel
theorem dX8_times_117 : decode cX8_times 117 = .ok (.getfield 29, 3) := by decide +kernel
theorem dX8_times_120 : decode cX8_times 120 = .ok (.iload 5, 2) := by decide +kernel
theorem dX8_times_122 : decode cX8_times 122 = .ok (.iconst 0, 1) := by decide +kernel
theorem dX8_times_123 : decode cX8_times 123 = .ok (.bastore, 1) := by decide +kernel
theorem dX8_times_124 : decode cX8_times 124 = .ok (.iinc 5 1, 3) := by decide +kernel
theorem dX8_times_127 : decode cX8_times 127 = .ok (.goto (-33), 3) := by decide +kernel
theorem dX8_times_130 : decode cX8_times 130 = .ok (.iconst 0, 1) := by decide +kernel
theorem dX8_times_131 : decode cX8_times 131 = .ok (.istore 5, 2) := by decide +kernel
theorem dX8_times_133 : decode cX8_times 133 = .ok (.iload 5, 2) := by decide +kernel
theorem dX8_times_135 : decode cX8_times 135 = .ok (.sipush 201, 3) := by decide +kernel
theorem dX8_times_138 : decode cX8_times 138 = .ok (.if_icmp .ge 50, 3) := by decide +kernel
theorem dX8_times_141 : decode cX8_times 141 = .ok (.iconst 0, 1) := by decide +kernel
theorem dX8_times_142 : decode cX8_times 142 = .ok (.istore 6, 2) := by decide +kernel
theorem dX8_times_144 : decode cX8_times 144 = .ok (.iload 6, 2) := by decide +kernel
theorem dX8_times_146 : decode cX8_times 146 = .ok (.iload_n 3, 1) := by decide +kernel
theorem dX8_times_147 : decode cX8_times 147 = .ok (.if_icmp .ge 35, 3) := by decide +kernel
theorem dX8_times_150 : decode cX8_times 150 = .ok (.aload_n 0, 1) := by decide +kernel
theorem dX8_times_151 : decode cX8_times 151 = .ok (.getfield 32, 3) := by decide +kernel
theorem dX8_times_154 : decode cX8_times 154 = .ok (.iload 5, 2) := by decide +kernel
theorem dX8_times_156 : decode cX8_times 156 = .ok (.baload, 1) := by decide +kernel
theorem dX8_times_157 : decode cX8_times 157 = .ok (.ifCond .eq 25, 3) := by decide +kernel
theorem dX8_times_160 : decode cX8_times 160 = .ok (.aload_n 0, 1) := by decide +kernel
theorem dX8_times_161 : decode cX8_times 161 = .ok (.getfield 29, 3) := by decide +kernel
theorem dX8_times_164 : decode cX8_times 164 = .ok (.iload 5, 2) := by decide +kernel
theorem dX8_times_166 : decode cX8_times 166 = .ok (.aload_n 0, 1) := by decide +kernel
theorem dX8_times_167 : decode cX8_times 167 = .ok (.getfield 23, 3) := by decide +kernel
theorem dX8_times_170 : decode cX8_times 170 = .ok (.iload 6, 2) := by decide +kernel
theorem dX8_times_172 : decode cX8_times 172 = .ok (.iaload, 1) := by decide +kernel
theorem dX8_times_173 : decode cX8_times 173 = .ok (.iadd, 1) := by decide +kernel
theorem dX8_times_174 : decode cX8_times 174 = .ok (.iconst 1, 1) := by decide +kernel
theorem dX8_times_175 : decode cX8_times 175 = .ok (.bastore, 1) := by decide +kernel
theorem dX8_times_176 : decode cX8_times 176 = .ok (.iinc 6 1, 3) := by decide +kernel
theorem dX8_times_179 : decode cX8_times 179 = .ok (.goto (-35), 3) := by decide +kernel
theorem dX8_times_182 : decode cX8_times 182 = .ok (.iinc 5 1, 3) := by decide +kernel
theorem dX8_times_185 : decode cX8_times 185 = .ok (.goto (-52), 3) := by decide +kernel
theorem dX8_times_188 : decode cX8_times 188 = .ok (.iinc 4 1, 3) := by decide +kernel
theorem dX8_times_191 : decode cX8_times 191 = .ok (.goto (-106), 3) := by decide +kernel
theorem dX8_times_194 : decode cX8_times 194 = .ok (.aload_n 0, 1) := by decide +kernel
theorem dX8_times_195 : decode cX8_times 195 = .ok (.aload_n 0, 1) := by decide +kernel
theorem dX8_times_196 : decode cX8_times 196 = .ok (.getfield 29, 3) := by decide +kernel
theorem dX8_times_199 : decode cX8_times 199 = .ok (.invokevirtual 103, 3) := by decide +kernel
theorem dX8_times_202 : decode cX8_times 202 = .ok (.ireturn, 1) := by decide +kernel
set_option maxRecDepth 20000 in
theorem ggX8_waysOf_X8_in : GoodIn wsX8_waysOf wsX8_in := goodIn_r _ [6] (by decide +kernel) (by decide +kernel)
set_option maxRecDepth 20000 in
theorem gX8_waysOf_X8_in : GoodIn wsX8_waysOf (va_wsS RX8 43 yX8_in wsX8_in) := goodIn_app (goodIn_of _ (by decide +kernel)) ggX8_waysOf_X8_in
theorem dX8_waysOf_0 : decode cX8_waysOf 0 = .ok (.iconst 0, 1) := by decide +kernel
theorem dX8_waysOf_1 : decode cX8_waysOf 1 = .ok (.istore 4, 2) := by decide +kernel
theorem dX8_waysOf_3 : decode cX8_waysOf 3 = .ok (.iconst 0, 1) := by decide +kernel
theorem dX8_waysOf_4 : decode cX8_waysOf 4 = .ok (.istore 5, 2) := by decide +kernel
theorem dX8_waysOf_6 : decode cX8_waysOf 6 = .ok (.iload 5, 2) := by decide +kernel
theorem dX8_waysOf_8 : decode cX8_waysOf 8 = .ok (.bipush 41, 2) := by decide +kernel
theorem dX8_waysOf_10 : decode cX8_waysOf 10 = .ok (.if_icmp .ge 66, 3) := by decide +kernel
theorem dX8_waysOf_13 : decode cX8_waysOf 13 = .ok (.iload 4, 2) := by decide +kernel
theorem dX8_waysOf_15 : decode cX8_waysOf 15 = .ok (.aload_n 0, 1) := by decide +kernel
theorem dX8_waysOf_16 : decode cX8_waysOf 16 = .ok (.getfield 13, 3) := by decide +kernel
theorem dX8_waysOf_19 : decode cX8_waysOf 19 = .ok (.bipush 41, 2) := by decide +kernel
theorem dX8_waysOf_21 : decode cX8_waysOf 21 = .ok (.iload_n 1, 1) := by decide +kernel
theorem dX8_waysOf_22 : decode cX8_waysOf 22 = .ok (.imul, 1) := by decide +kernel
theorem dX8_waysOf_23 : decode cX8_waysOf 23 = .ok (.iload 5, 2) := by decide +kernel
theorem dX8_waysOf_25 : decode cX8_waysOf 25 = .ok (.iadd, 1) := by decide +kernel
theorem dX8_waysOf_26 : decode cX8_waysOf 26 = .ok (.baload, 1) := by decide +kernel
theorem dX8_waysOf_27 : decode cX8_waysOf 27 = .ok (.ifCond .eq 39, 3) := by decide +kernel
theorem dX8_waysOf_30 : decode cX8_waysOf 30 = .ok (.iload_n 3, 1) := by decide +kernel
theorem dX8_waysOf_31 : decode cX8_waysOf 31 = .ok (.iload 5, 2) := by decide +kernel
theorem dX8_waysOf_33 : decode cX8_waysOf 33 = .ok (.isub, 1) := by decide +kernel
theorem dX8_waysOf_34 : decode cX8_waysOf 34 = .ok (.i2l, 1) := by decide +kernel
theorem dX8_waysOf_35 : decode cX8_waysOf 35 = .ok (.lconst 0, 1) := by decide +kernel
theorem dX8_waysOf_36 : decode cX8_waysOf 36 = .ok (.ldc2_w 90, 3) := by decide +kernel
theorem dX8_waysOf_39 : decode cX8_waysOf 39 = .ok (.invokestatic 43, 3) := by decide +kernel
theorem dX8_waysOf_42 : decode cX8_waysOf 42 = .ok (.ifCond .eq 24, 3) := by decide +kernel
theorem dX8_waysOf_45 : decode cX8_waysOf 45 = .ok (.aload_n 0, 1) := by decide +kernel
theorem dX8_waysOf_46 : decode cX8_waysOf 46 = .ok (.getfield 13, 3) := by decide +kernel
theorem dX8_waysOf_49 : decode cX8_waysOf 49 = .ok (.bipush 41, 2) := by decide +kernel
theorem dX8_waysOf_51 : decode cX8_waysOf 51 = .ok (.iload_n 2, 1) := by decide +kernel
theorem dX8_waysOf_52 : decode cX8_waysOf 52 = .ok (.imul, 1) := by decide +kernel
theorem dX8_waysOf_53 : decode cX8_waysOf 53 = .ok (.iload_n 3, 1) := by decide +kernel
theorem dX8_waysOf_54 : decode cX8_waysOf 54 = .ok (.iadd, 1) := by decide +kernel
theorem dX8_waysOf_55 : decode cX8_waysOf 55 = .ok (.iload 5, 2) := by decide +kernel
theorem dX8_waysOf_57 : decode cX8_waysOf 57 = .ok (.isub, 1) := by decide +kernel
theorem dX8_waysOf_58 : decode cX8_waysOf 58 = .ok (.baload, 1) := by decide +kernel
theorem dX8_waysOf_59 : decode cX8_waysOf 59 = .ok (.ifCond .eq 7, 3) := by decide +kernel
theorem dX8_waysOf_62 : decode cX8_waysOf 62 = .ok (.iconst 1, 1) := by decide +kernel
theorem dX8_waysOf_63 : decode cX8_waysOf 63 = .ok (.goto 4, 3) := by decide +kernel
theorem dX8_waysOf_66 : decode cX8_waysOf 66 = .ok (.iconst 0, 1) := by decide +kernel
theorem dX8_waysOf_67 : decode cX8_waysOf 67 = .ok (.iadd, 1) := by decide +kernel
theorem dX8_waysOf_68 : decode cX8_waysOf 68 = .ok (.istore 4, 2) := by decide +kernel
theorem dX8_waysOf_70 : decode cX8_waysOf 70 = .ok (.iinc 5 1, 3) := by decide +kernel
theorem dX8_waysOf_73 : decode cX8_waysOf 73 = .ok (.goto (-67), 3) := by decide +kernel
theorem dX8_waysOf_76 : decode cX8_waysOf 76 = .ok (.iload 4, 2) := by decide +kernel
theorem dX8_waysOf_78 : decode cX8_waysOf 78 = .ok (.ireturn, 1) := by decide +kernel
set_option maxRecDepth 20000 in
theorem ggX8_ways_X8_isSlot : GoodIn wsX8_ways wsX8_isSlot := goodIn_r _ [5, 6, 7, 8, 4, 9] (by decide +kernel) (by decide +kernel)
set_option maxRecDepth 20000 in
theorem gX8_ways_X8_isSlot : GoodIn wsX8_ways (va_wsS RX8 87 yX8_isSlot wsX8_isSlot) := goodIn_app (goodIn_of _ (by decide +kernel)) ggX8_ways_X8_isSlot
set_option maxRecDepth 20000 in
theorem ggX8_ways_X8_in : GoodIn wsX8_ways wsX8_in := goodIn_r _ [9] (by decide +kernel) (by decide +kernel)
set_option maxRecDepth 20000 in
theorem gX8_ways_X8_in : GoodIn wsX8_ways (va_wsS RX8 43 yX8_in wsX8_in) := goodIn_app (goodIn_of _ (by decide +kernel)) ggX8_ways_X8_in
set_option maxRecDepth 20000 in
theorem ggX8_ways_X8_waysOf : GoodIn wsX8_ways wsX8_waysOf := goodIn_r _ [13, 14, 15, 7, 8, 4, 9, 16, 17, 18, 19, 20, 21, 22, 23, 24, 25, 26, 27, 28, 29, 30, 31, 32] (by decide +kernel) (by decide +kernel)
set_option maxRecDepth 20000 in
theorem gX8_ways_X8_waysOf : GoodIn wsX8_ways (wsV RX8 125 RX8 yX8_waysOf wsX8_waysOf) := goodIn_app (goodIn_of _ (by decide +kernel)) ggX8_ways_X8_waysOf
theorem dX8_ways_0 : decode cX8_ways 0 = .ok (.iload_n 1, 1) := by decide +kernel
theorem dX8_ways_1 : decode cX8_ways 1 = .ok (.invokestatic 87, 3) := by decide +kernel
theorem dX8_ways_4 : decode cX8_ways 4 = .ok (.ifCond .eq 32, 3) := by decide +kernel
theorem dX8_ways_7 : decode cX8_ways 7 = .ok (.iload_n 2, 1) := by decide +kernel
theorem dX8_ways_8 : decode cX8_ways 8 = .ok (.invokestatic 87, 3) := by decide +kernel
theorem dX8_ways_11 : decode cX8_ways 11 = .ok (.ifCond .eq 25, 3) := by decide +kernel
theorem dX8_ways_14 : decode cX8_ways 14 = .ok (.iload_n 3, 1) := by decide +kernel
theorem dX8_ways_15 : decode cX8_ways 15 = .ok (.i2l, 1) := by decide +kernel
theorem dX8_ways_16 : decode cX8_ways 16 = .ok (.lconst 0, 1) := by decide +kernel
theorem dX8_ways_17 : decode cX8_ways 17 = .ok (.ldc2_w 123, 3) := by decide +kernel
theorem dX8_ways_20 : decode cX8_ways 20 = .ok (.invokestatic 43, 3) := by decide +kernel
theorem dX8_ways_23 : decode cX8_ways 23 = .ok (.ifCond .eq 13, 3) := by decide +kernel
theorem dX8_ways_26 : decode cX8_ways 26 = .ok (.aload_n 0, 1) := by decide +kernel
theorem dX8_ways_27 : decode cX8_ways 27 = .ok (.iload_n 1, 1) := by decide +kernel
theorem dX8_ways_28 : decode cX8_ways 28 = .ok (.iload_n 2, 1) := by decide +kernel
theorem dX8_ways_29 : decode cX8_ways 29 = .ok (.iload_n 3, 1) := by decide +kernel
theorem dX8_ways_30 : decode cX8_ways 30 = .ok (.invokevirtual 125, 3) := by decide +kernel
theorem dX8_ways_33 : decode cX8_ways 33 = .ok (.goto 4, 3) := by decide +kernel
theorem dX8_ways_36 : decode cX8_ways 36 = .ok (.iconst (-1), 1) := by decide +kernel
theorem dX8_ways_37 : decode cX8_ways 37 = .ok (.ireturn, 1) := by decide +kernel
set_option maxRecDepth 20000 in
theorem ggX8_energy_X8_isSlot : GoodIn wsX8_energy wsX8_isSlot := goodIn_r _ [4, 5, 6, 7, 3, 8] (by decide +kernel) (by decide +kernel)
set_option maxRecDepth 20000 in
theorem gX8_energy_X8_isSlot : GoodIn wsX8_energy (va_wsS RX8 87 yX8_isSlot wsX8_isSlot) := goodIn_app (goodIn_of _ (by decide +kernel)) ggX8_energy_X8_isSlot
set_option maxRecDepth 20000 in
theorem ggX8_energy_X8_waysOf : GoodIn wsX8_energy wsX8_waysOf := goodIn_r _ [12, 13, 14, 6, 7, 3, 8, 15, 16, 17, 18, 19, 20, 21, 22, 23, 24, 25, 26, 27, 28, 29, 30, 31] (by decide +kernel) (by decide +kernel)
set_option maxRecDepth 20000 in
theorem gX8_energy_X8_waysOf : GoodIn wsX8_energy (wsV RX8 125 RX8 yX8_waysOf wsX8_waysOf) := goodIn_app (goodIn_of _ (by decide +kernel)) ggX8_energy_X8_waysOf
theorem dX8_energy_0 : decode cX8_energy 0 = .ok (.iload_n 1, 1) := by decide +kernel
theorem dX8_energy_1 : decode cX8_energy 1 = .ok (.invokestatic 87, 3) := by decide +kernel
theorem dX8_energy_4 : decode cX8_energy 4 = .ok (.ifCond .ne 5, 3) := by decide +kernel
theorem dX8_energy_7 : decode cX8_energy 7 = .ok (.iconst (-1), 1) := by decide +kernel
theorem dX8_energy_8 : decode cX8_energy 8 = .ok (.ireturn, 1) := by decide +kernel
theorem dX8_energy_9 : decode cX8_energy 9 = .ok (.iconst 0, 1) := by decide +kernel
theorem dX8_energy_10 : decode cX8_energy 10 = .ok (.istore_n 2, 1) := by decide +kernel
theorem dX8_energy_11 : decode cX8_energy 11 = .ok (.iconst 0, 1) := by decide +kernel
theorem dX8_energy_12 : decode cX8_energy 12 = .ok (.istore_n 3, 1) := by decide +kernel
theorem dX8_energy_13 : decode cX8_energy 13 = .ok (.iload_n 3, 1) := by decide +kernel
theorem dX8_energy_14 : decode cX8_energy 14 = .ok (.bipush 80, 2) := by decide +kernel
theorem dX8_energy_16 : decode cX8_energy 16 = .ok (.if_icmp .gt 26, 3) := by decide +kernel
theorem dX8_energy_19 : decode cX8_energy 19 = .ok (.aload_n 0, 1) := by decide +kernel
theorem dX8_energy_20 : decode cX8_energy 20 = .ok (.iload_n 1, 1) := by decide +kernel
theorem dX8_energy_21 : decode cX8_energy 21 = .ok (.iload_n 1, 1) := by decide +kernel
theorem dX8_energy_22 : decode cX8_energy 22 = .ok (.iload_n 3, 1) := by decide +kernel
theorem dX8_energy_23 : decode cX8_energy 23 = .ok (.invokevirtual 125, 3) := by decide +kernel
theorem dX8_energy_26 : decode cX8_energy 26 = .ok (.istore 4, 2) := by decide +kernel
theorem dX8_energy_28 : decode cX8_energy 28 = .ok (.iload_n 2, 1) := by decide +kernel
theorem dX8_energy_29 : decode cX8_energy 29 = .ok (.iload 4, 2) := by decide +kernel
theorem dX8_energy_31 : decode cX8_energy 31 = .ok (.iload 4, 2) := by decide +kernel
theorem dX8_energy_33 : decode cX8_energy 33 = .ok (.imul, 1) := by decide +kernel
theorem dX8_energy_34 : decode cX8_energy 34 = .ok (.iadd, 1) := by decide +kernel
theorem dX8_energy_35 : decode cX8_energy 35 = .ok (.istore_n 2, 1) := by decide +kernel
theorem dX8_energy_36 : decode cX8_energy 36 = .ok (.iinc 3 1, 3) := by decide +kernel
theorem dX8_energy_39 : decode cX8_energy 39 = .ok (.goto (-26), 3) := by decide +kernel
theorem dX8_energy_42 : decode cX8_energy 42 = .ok (.iload_n 2, 1) := by decide +kernel
theorem dX8_energy_43 : decode cX8_energy 43 = .ok (.ireturn, 1) := by decide +kernel
theorem dX8_common_0 : decode cX8_common 0 = .ok (.iload_n 0, 1) := by decide +kernel
theorem dX8_common_1 : decode cX8_common 1 = .ok (.istore_n 2, 1) := by decide +kernel
theorem dX8_common_2 : decode cX8_common 2 = .ok (.iload_n 1, 1) := by decide +kernel
theorem dX8_common_3 : decode cX8_common 3 = .ok (.istore_n 3, 1) := by decide +kernel
theorem dX8_common_4 : decode cX8_common 4 = .ok (.iload_n 3, 1) := by decide +kernel
theorem dX8_common_5 : decode cX8_common 5 = .ok (.ifCond .le 16, 3) := by decide +kernel
theorem dX8_common_8 : decode cX8_common 8 = .ok (.iload_n 2, 1) := by decide +kernel
theorem dX8_common_9 : decode cX8_common 9 = .ok (.iload_n 3, 1) := by decide +kernel
theorem dX8_common_10 : decode cX8_common 10 = .ok (.irem, 1) := by decide +kernel
theorem dX8_common_11 : decode cX8_common 11 = .ok (.istore 4, 2) := by decide +kernel
theorem dX8_common_13 : decode cX8_common 13 = .ok (.iload_n 3, 1) := by decide +kernel
theorem dX8_common_14 : decode cX8_common 14 = .ok (.istore_n 2, 1) := by decide +kernel
theorem dX8_common_15 : decode cX8_common 15 = .ok (.iload 4, 2) := by decide +kernel
theorem dX8_common_17 : decode cX8_common 17 = .ok (.istore_n 3, 1) := by decide +kernel
theorem dX8_common_18 : decode cX8_common 18 = .ok (.goto (-14), 3) := by decide +kernel
theorem dX8_common_21 : decode cX8_common 21 = .ok (.iload_n 2, 1) := by decide +kernel
theorem dX8_common_22 : decode cX8_common 22 = .ok (.ireturn, 1) := by decide +kernel
set_option maxRecDepth 20000 in
theorem ggX8_findCover_X8_common : GoodIn wsX8_findCover wsX8_common := goodIn_r _ [7] (by decide +kernel) (by decide +kernel)
set_option maxRecDepth 20000 in
theorem gX8_findCover_X8_common : GoodIn wsX8_findCover (va_wsS RX8 131 yX8_common wsX8_common) := goodIn_app (goodIn_of _ (by decide +kernel)) ggX8_findCover_X8_common
theorem dX8_findCover_0 : decode cX8_findCover 0 = .ok (.aload_n 0, 1) := by decide +kernel
theorem dX8_findCover_1 : decode cX8_findCover 1 = .ok (.iconst 0, 1) := by decide +kernel
theorem dX8_findCover_2 : decode cX8_findCover 2 = .ok (.putfield 128, 3) := by decide +kernel
theorem dX8_findCover_5 : decode cX8_findCover 5 = .ok (.iconst 1, 1) := by decide +kernel
theorem dX8_findCover_6 : decode cX8_findCover 6 = .ok (.istore_n 2, 1) := by decide +kernel
theorem dX8_findCover_7 : decode cX8_findCover 7 = .ok (.iload_n 2, 1) := by decide +kernel
theorem dX8_findCover_8 : decode cX8_findCover 8 = .ok (.iload_n 1, 1) := by decide +kernel
theorem dX8_findCover_9 : decode cX8_findCover 9 = .ok (.if_icmp .ge 33, 3) := by decide +kernel
theorem dX8_findCover_12 : decode cX8_findCover 12 = .ok (.aload_n 0, 1) := by decide +kernel
theorem dX8_findCover_13 : decode cX8_findCover 13 = .ok (.aload_n 0, 1) := by decide +kernel
theorem dX8_findCover_14 : decode cX8_findCover 14 = .ok (.getfield 23, 3) := by decide +kernel
theorem dX8_findCover_17 : decode cX8_findCover 17 = .ok (.iload_n 2, 1) := by decide +kernel
theorem dX8_findCover_18 : decode cX8_findCover 18 = .ok (.iaload, 1) := by decide +kernel
theorem dX8_findCover_19 : decode cX8_findCover 19 = .ok (.aload_n 0, 1) := by decide +kernel
theorem dX8_findCover_20 : decode cX8_findCover 20 = .ok (.getfield 23, 3) := by decide +kernel
theorem dX8_findCover_23 : decode cX8_findCover 23 = .ok (.iconst 0, 1) := by decide +kernel
theorem dX8_findCover_24 : decode cX8_findCover 24 = .ok (.iaload, 1) := by decide +kernel
theorem dX8_findCover_25 : decode cX8_findCover 25 = .ok (.isub, 1) := by decide +kernel
theorem dX8_findCover_26 : decode cX8_findCover 26 = .ok (.aload_n 0, 1) := by decide +kernel
theorem dX8_findCover_27 : decode cX8_findCover 27 = .ok (.getfield 128, 3) := by decide +kernel
theorem dX8_findCover_30 : decode cX8_findCover 30 = .ok (.invokestatic 131, 3) := by decide +kernel
theorem dX8_findCover_33 : decode cX8_findCover 33 = .ok (.putfield 128, 3) := by decide +kernel
theorem dX8_findCover_36 : decode cX8_findCover 36 = .ok (.iinc 2 1, 3) := by decide +kernel
theorem dX8_findCover_39 : decode cX8_findCover 39 = .ok (.goto (-32), 3) := by decide +kernel
theorem dX8_findCover_42 : decode cX8_findCover 42 = .ok (.aload_n 0, 1) := by decide +kernel
theorem dX8_findCover_43 : decode cX8_findCover 43 = .ok (.aload_n 0, 1) := by decide +kernel
theorem dX8_findCover_44 : decode cX8_findCover 44 = .ok (.getfield 128, 3) := by decide +kernel
theorem dX8_findCover_47 : decode cX8_findCover 47 = .ok (.ifCond .ne 7, 3) := by decide +kernel
theorem dX8_findCover_50 : decode cX8_findCover 50 = .ok (.iconst 1, 1) := by decide +kernel
theorem dX8_findCover_51 : decode cX8_findCover 51 = .ok (.goto 25, 3) := by decide +kernel
theorem dX8_findCover_54 : decode cX8_findCover 54 = .ok (.aload_n 0, 1) := by decide +kernel
theorem dX8_findCover_55 : decode cX8_findCover 55 = .ok (.getfield 23, 3) := by decide +kernel
theorem dX8_findCover_58 : decode cX8_findCover 58 = .ok (.iload_n 1, 1) := by decide +kernel
theorem dX8_findCover_59 : decode cX8_findCover 59 = .ok (.iconst 1, 1) := by decide +kernel
theorem dX8_findCover_60 : decode cX8_findCover 60 = .ok (.isub, 1) := by decide +kernel
theorem dX8_findCover_61 : decode cX8_findCover 61 = .ok (.iaload, 1) := by decide +kernel
theorem dX8_findCover_62 : decode cX8_findCover 62 = .ok (.aload_n 0, 1) := by decide +kernel
theorem dX8_findCover_63 : decode cX8_findCover 63 = .ok (.getfield 23, 3) := by decide +kernel
theorem dX8_findCover_66 : decode cX8_findCover 66 = .ok (.iconst 0, 1) := by decide +kernel
theorem dX8_findCover_67 : decode cX8_findCover 67 = .ok (.iaload, 1) := by decide +kernel
theorem dX8_findCover_68 : decode cX8_findCover 68 = .ok (.isub, 1) := by decide +kernel
theorem dX8_findCover_69 : decode cX8_findCover 69 = .ok (.aload_n 0, 1) := by decide +kernel
theorem dX8_findCover_70 : decode cX8_findCover 70 = .ok (.getfield 128, 3) := by decide +kernel
theorem dX8_findCover_73 : decode cX8_findCover 73 = .ok (.idiv, 1) := by decide +kernel
theorem dX8_findCover_74 : decode cX8_findCover 74 = .ok (.iconst 1, 1) := by decide +kernel
theorem dX8_findCover_75 : decode cX8_findCover 75 = .ok (.iadd, 1) := by decide +kernel
theorem dX8_findCover_76 : decode cX8_findCover 76 = .ok (.putfield 134, 3) := by decide +kernel
theorem dX8_findCover_79 : decode cX8_findCover 79 = .ok (.aload_n 0, 1) := by decide +kernel
theorem dX8_findCover_80 : decode cX8_findCover 80 = .ok (.aload_n 0, 1) := by decide +kernel
theorem dX8_findCover_81 : decode cX8_findCover 81 = .ok (.getfield 128, 3) := by decide +kernel
theorem dX8_findCover_84 : decode cX8_findCover 84 = .ok (.ifCond .ne 7, 3) := by decide +kernel
theorem dX8_findCover_87 : decode cX8_findCover 87 = .ok (.iconst 1, 1) := by decide +kernel
theorem dX8_findCover_88 : decode cX8_findCover 88 = .ok (.goto 7, 3) := by decide +kernel
theorem dX8_findCover_91 : decode cX8_findCover 91 = .ok (.aload_n 0, 1) := by decide +kernel
theorem dX8_findCover_92 : decode cX8_findCover 92 = .ok (.getfield 128, 3) := by decide +kernel
theorem dX8_findCover_95 : decode cX8_findCover 95 = .ok (.putfield 128, 3) := by decide +kernel
theorem dX8_findCover_98 : decode cX8_findCover 98 = .ok (.return_, 1) := by decide +kernel
set_option maxRecDepth 20000 in
theorem ggX8_cover_X8_isSlot : GoodIn wsX8_cover wsX8_isSlot := goodIn_r _ [8, 9, 10, 11, 7, 12] (by decide +kernel) (by decide +kernel)
set_option maxRecDepth 20000 in
theorem gX8_cover_X8_isSlot : GoodIn wsX8_cover (va_wsS RX8 87 yX8_isSlot wsX8_isSlot) := goodIn_app (goodIn_of _ (by decide +kernel)) ggX8_cover_X8_isSlot
set_option maxRecDepth 20000 in
theorem ggX8_cover_X8_in : GoodIn wsX8_cover wsX8_in := goodIn_r _ [12] (by decide +kernel) (by decide +kernel)
set_option maxRecDepth 20000 in
theorem gX8_cover_X8_in : GoodIn wsX8_cover (va_wsS RX8 43 yX8_in wsX8_in) := goodIn_app (goodIn_of _ (by decide +kernel)) ggX8_cover_X8_in
set_option maxRecDepth 20000 in
theorem ggX8_cover_X8_lists : GoodIn wsX8_cover wsX8_lists := goodIn_r _ [16, 17, 25, 26, 27, 28, 29, 30, 31, 32, 33, 34, 35, 36, 37, 38, 39, 40, 41] (by decide +kernel) (by decide +kernel)
set_option maxRecDepth 20000 in
theorem gX8_cover_X8_lists : GoodIn wsX8_cover (wsV RX8 99 RX8 yX8_lists wsX8_lists) := goodIn_app (goodIn_of _ (by decide +kernel)) ggX8_cover_X8_lists
set_option maxRecDepth 20000 in
theorem ggX8_cover_X8_findCover : GoodIn wsX8_cover wsX8_findCover := goodIn_r _ [21, 3, 2, 4, 22, 23, 7, 24, 25, 26, 27, 28, 29, 30, 31, 32, 33, 34, 35, 36, 37, 38, 39, 40, 41] (by decide +kernel) (by decide +kernel)
set_option maxRecDepth 20000 in
theorem gX8_cover_X8_findCover : GoodIn wsX8_cover (wsV RX8 139 RX8 yX8_findCover wsX8_findCover) := goodIn_app (goodIn_of _ (by decide +kernel)) ggX8_cover_X8_findCover
theorem dX8_cover_0 : decode cX8_cover 0 = .ok (.iload_n 1, 1) := by decide +kernel
theorem dX8_cover_1 : decode cX8_cover 1 = .ok (.invokestatic 87, 3) := by decide +kernel
theorem dX8_cover_4 : decode cX8_cover 4 = .ok (.ifCond .eq 15, 3) := by decide +kernel
theorem dX8_cover_7 : decode cX8_cover 7 = .ok (.iload_n 2, 1) := by decide +kernel
theorem dX8_cover_8 : decode cX8_cover 8 = .ok (.i2l, 1) := by decide +kernel
theorem dX8_cover_9 : decode cX8_cover 9 = .ok (.lconst 0, 1) := by decide +kernel
theorem dX8_cover_10 : decode cX8_cover 10 = .ok (.ldc2_w 137, 3) := by decide +kernel
theorem dX8_cover_13 : decode cX8_cover 13 = .ok (.invokestatic 43, 3) := by decide +kernel
theorem dX8_cover_16 : decode cX8_cover 16 = .ok (.ifCond .ne 5, 3) := by decide +kernel
theorem dX8_cover_19 : decode cX8_cover 19 = .ok (.iconst (-1), 1) := by decide +kernel
theorem dX8_cover_20 : decode cX8_cover 20 = .ok (.ireturn, 1) := by decide +kernel
theorem dX8_cover_21 : decode cX8_cover 21 = .ok (.aload_n 0, 1) := by decide +kernel
theorem dX8_cover_22 : decode cX8_cover 22 = .ok (.iload_n 1, 1) := by decide +kernel
theorem dX8_cover_23 : decode cX8_cover 23 = .ok (.aload_n 0, 1) := by decide +kernel
theorem dX8_cover_24 : decode cX8_cover 24 = .ok (.getfield 23, 3) := by decide +kernel
theorem dX8_cover_27 : decode cX8_cover 27 = .ok (.invokevirtual 99, 3) := by decide +kernel
theorem dX8_cover_30 : decode cX8_cover 30 = .ok (.istore_n 3, 1) := by decide +kernel
theorem dX8_cover_31 : decode cX8_cover 31 = .ok (.iload_n 3, 1) := by decide +kernel
theorem dX8_cover_32 : decode cX8_cover 32 = .ok (.ifCond .ne 6, 3) := by decide +kernel
theorem dX8_cover_35 : decode cX8_cover 35 = .ok (.bipush (-2), 2) := by decide +kernel
theorem dX8_cover_37 : decode cX8_cover 37 = .ok (.ireturn, 1) := by decide +kernel
theorem dX8_cover_38 : decode cX8_cover 38 = .ok (.aload_n 0, 1) := by decide +kernel
theorem dX8_cover_39 : decode cX8_cover 39 = .ok (.iload_n 3, 1) := by decide +kernel
theorem dX8_cover_40 : decode cX8_cover 40 = .ok (.invokevirtual 139, 3) := by decide +kernel
theorem dX8_cover_43 : decode cX8_cover 43 = .ok (.iload_n 2, 1) := by decide +kernel
theorem dX8_cover_44 : decode cX8_cover 44 = .ok (.ifCond .ne 12, 3) := by decide +kernel
theorem dX8_cover_47 : decode cX8_cover 47 = .ok (.aload_n 0, 1) := by decide +kernel
theorem dX8_cover_48 : decode cX8_cover 48 = .ok (.getfield 23, 3) := by decide +kernel
theorem dX8_cover_51 : decode cX8_cover 51 = .ok (.iconst 0, 1) := by decide +kernel
theorem dX8_cover_52 : decode cX8_cover 52 = .ok (.iaload, 1) := by decide +kernel
theorem dX8_cover_53 : decode cX8_cover 53 = .ok (.goto 19, 3) := by decide +kernel
theorem dX8_cover_56 : decode cX8_cover 56 = .ok (.iload_n 2, 1) := by decide +kernel
theorem dX8_cover_57 : decode cX8_cover 57 = .ok (.iconst 1, 1) := by decide +kernel
theorem dX8_cover_58 : decode cX8_cover 58 = .ok (.if_icmp .ne 10, 3) := by decide +kernel
theorem dX8_cover_61 : decode cX8_cover 61 = .ok (.aload_n 0, 1) := by decide +kernel
theorem dX8_cover_62 : decode cX8_cover 62 = .ok (.getfield 128, 3) := by decide +kernel
theorem dX8_cover_65 : decode cX8_cover 65 = .ok (.goto 7, 3) := by decide +kernel
theorem dX8_cover_68 : decode cX8_cover 68 = .ok (.aload_n 0, 1) := by decide +kernel
theorem dX8_cover_69 : decode cX8_cover 69 = .ok (.getfield 134, 3) := by decide +kernel
theorem dX8_cover_72 : decode cX8_cover 72 = .ok (.ireturn, 1) := by decide +kernel
set_option maxRecDepth 20000 in
theorem ggX8_isGrid_X8_common : GoodIn wsX8_isGrid wsX8_common := goodIn_r _ [5] (by decide +kernel) (by decide +kernel)
set_option maxRecDepth 20000 in
theorem gX8_isGrid_X8_common : GoodIn wsX8_isGrid (va_wsS RX8 131 yX8_common wsX8_common) := goodIn_app (goodIn_of _ (by decide +kernel)) ggX8_isGrid_X8_common
theorem dX8_isGrid_0 : decode cX8_isGrid 0 = .ok (.iload_n 2, 1) := by decide +kernel
theorem dX8_isGrid_1 : decode cX8_isGrid 1 = .ok (.iload_n 3, 1) := by decide +kernel
theorem dX8_isGrid_2 : decode cX8_isGrid 2 = .ok (.invokestatic 131, 3) := by decide +kernel
theorem dX8_isGrid_5 : decode cX8_isGrid 5 = .ok (.istore 6, 2) := by decide +kernel
theorem dX8_isGrid_7 : decode cX8_isGrid 7 = .ok (.iload_n 3, 1) := by decide +kernel
theorem dX8_isGrid_8 : decode cX8_isGrid 8 = .ok (.iload 6, 2) := by decide +kernel
theorem dX8_isGrid_10 : decode cX8_isGrid 10 = .ok (.idiv, 1) := by decide +kernel
theorem dX8_isGrid_11 : decode cX8_isGrid 11 = .ok (.iload 4, 2) := by decide +kernel
theorem dX8_isGrid_13 : decode cX8_isGrid 13 = .ok (.if_icmp .ge 12, 3) := by decide +kernel
theorem dX8_isGrid_16 : decode cX8_isGrid 16 = .ok (.iload_n 2, 1) := by decide +kernel
theorem dX8_isGrid_17 : decode cX8_isGrid 17 = .ok (.iload 6, 2) := by decide +kernel
theorem dX8_isGrid_19 : decode cX8_isGrid 19 = .ok (.idiv, 1) := by decide +kernel
theorem dX8_isGrid_20 : decode cX8_isGrid 20 = .ok (.iload 5, 2) := by decide +kernel
theorem dX8_isGrid_22 : decode cX8_isGrid 22 = .ok (.if_icmp .lt 7, 3) := by decide +kernel
theorem dX8_isGrid_25 : decode cX8_isGrid 25 = .ok (.iconst 1, 1) := by decide +kernel
theorem dX8_isGrid_26 : decode cX8_isGrid 26 = .ok (.goto 4, 3) := by decide +kernel
theorem dX8_isGrid_29 : decode cX8_isGrid 29 = .ok (.iconst 0, 1) := by decide +kernel
theorem dX8_isGrid_30 : decode cX8_isGrid 30 = .ok (.istore 7, 2) := by decide +kernel
theorem dX8_isGrid_32 : decode cX8_isGrid 32 = .ok (.iconst 0, 1) := by decide +kernel
theorem dX8_isGrid_33 : decode cX8_isGrid 33 = .ok (.istore 8, 2) := by decide +kernel
theorem dX8_isGrid_35 : decode cX8_isGrid 35 = .ok (.iload 8, 2) := by decide +kernel
theorem dX8_isGrid_37 : decode cX8_isGrid 37 = .ok (.iload_n 1, 1) := by decide +kernel
theorem dX8_isGrid_38 : decode cX8_isGrid 38 = .ok (.if_icmp .ge 91, 3) := by decide +kernel
theorem dX8_isGrid_41 : decode cX8_isGrid 41 = .ok (.iload 7, 2) := by decide +kernel
theorem dX8_isGrid_43 : decode cX8_isGrid 43 = .ok (.ifCond .eq 86, 3) := by decide +kernel
theorem dX8_isGrid_46 : decode cX8_isGrid 46 = .ok (.iconst 0, 1) := by decide +kernel
theorem dX8_isGrid_47 : decode cX8_isGrid 47 = .ok (.istore 9, 2) := by decide +kernel
theorem dX8_isGrid_49 : decode cX8_isGrid 49 = .ok (.iconst 0, 1) := by decide +kernel
theorem dX8_isGrid_50 : decode cX8_isGrid 50 = .ok (.istore 10, 2) := by decide +kernel
theorem dX8_isGrid_52 : decode cX8_isGrid 52 = .ok (.iload 10, 2) := by decide +kernel
theorem dX8_isGrid_54 : decode cX8_isGrid 54 = .ok (.iload 5, 2) := by decide +kernel
theorem dX8_isGrid_56 : decode cX8_isGrid 56 = .ok (.if_icmp .ge 63, 3) := by decide +kernel
theorem dX8_isGrid_59 : decode cX8_isGrid 59 = .ok (.aload_n 0, 1) := by decide +kernel
theorem dX8_isGrid_60 : decode cX8_isGrid 60 = .ok (.getfield 23, 3) := by decide +kernel
theorem dX8_isGrid_63 : decode cX8_isGrid 63 = .ok (.iload 8, 2) := by decide +kernel
theorem dX8_isGrid_65 : decode cX8_isGrid 65 = .ok (.iaload, 1) := by decide +kernel
theorem dX8_isGrid_66 : decode cX8_isGrid 66 = .ok (.aload_n 0, 1) := by decide +kernel
theorem dX8_isGrid_67 : decode cX8_isGrid 67 = .ok (.getfield 23, 3) := by decide +kernel
theorem dX8_isGrid_70 : decode cX8_isGrid 70 = .ok (.iconst 0, 1) := by decide +kernel
theorem dX8_isGrid_71 : decode cX8_isGrid 71 = .ok (.iaload, 1) := by decide +kernel
theorem dX8_isGrid_72 : decode cX8_isGrid 72 = .ok (.isub, 1) := by decide +kernel
theorem dX8_isGrid_73 : decode cX8_isGrid 73 = .ok (.iload 10, 2) := by decide +kernel
theorem dX8_isGrid_75 : decode cX8_isGrid 75 = .ok (.iload_n 3, 1) := by decide +kernel
theorem dX8_isGrid_76 : decode cX8_isGrid 76 = .ok (.imul, 1) := by decide +kernel
theorem dX8_isGrid_77 : decode cX8_isGrid 77 = .ok (.isub, 1) := by decide +kernel
theorem dX8_isGrid_78 : decode cX8_isGrid 78 = .ok (.istore 11, 2) := by decide +kernel
theorem dX8_isGrid_80 : decode cX8_isGrid 80 = .ok (.iload 9, 2) := by decide +kernel
theorem dX8_isGrid_82 : decode cX8_isGrid 82 = .ok (.ifCond .ne 24, 3) := by decide +kernel
theorem dX8_isGrid_85 : decode cX8_isGrid 85 = .ok (.iload 11, 2) := by decide +kernel
theorem dX8_isGrid_87 : decode cX8_isGrid 87 = .ok (.ifCond .lt 23, 3) := by decide +kernel
theorem dX8_isGrid_90 : decode cX8_isGrid 90 = .ok (.iload 11, 2) := by decide +kernel
theorem dX8_isGrid_92 : decode cX8_isGrid 92 = .ok (.iload_n 2, 1) := by decide +kernel
theorem dX8_isGrid_93 : decode cX8_isGrid 93 = .ok (.irem, 1) := by decide +kernel
theorem dX8_isGrid_94 : decode cX8_isGrid 94 = .ok (.ifCond .ne 16, 3) := by decide +kernel
theorem dX8_isGrid_97 : decode cX8_isGrid 97 = .ok (.iload 11, 2) := by decide +kernel
theorem dX8_isGrid_99 : decode cX8_isGrid 99 = .ok (.iload_n 2, 1) := by decide +kernel
theorem dX8_isGrid_100 : decode cX8_isGrid 100 = .ok (.idiv, 1) := by decide +kernel
theorem dX8_isGrid_101 : decode cX8_isGrid 101 = .ok (.iload 4, 2) := by decide +kernel
theorem dX8_isGrid_103 : decode cX8_isGrid 103 = .ok (.if_icmp .ge 7, 3) := by decide +kernel
theorem dX8_isGrid_106 : decode cX8_isGrid 106 = .ok (.iconst 1, 1) := by decide +kernel
theorem dX8_isGrid_107 : decode cX8_isGrid 107 = .ok (.goto 4, 3) := by decide +kernel
theorem dX8_isGrid_110 : decode cX8_isGrid 110 = .ok (.iconst 0, 1) := by decide +kernel
theorem dX8_isGrid_111 : decode cX8_isGrid 111 = .ok (.istore 9, 2) := by decide +kernel
theorem dX8_isGrid_113 : decode cX8_isGrid 113 = .ok (.iinc 10 1, 3) := by decide +kernel
theorem dX8_isGrid_116 : decode cX8_isGrid 116 = .ok (.goto (-64), 3) := by decide +kernel
theorem dX8_isGrid_119 : decode cX8_isGrid 119 = .ok (.iload 9, 2) := by decide +kernel
theorem dX8_isGrid_121 : decode cX8_isGrid 121 = .ok (.istore 7, 2) := by decide +kernel
theorem dX8_isGrid_123 : decode cX8_isGrid 123 = .ok (.iinc 8 1, 3) := by decide +kernel
theorem dX8_isGrid_126 : decode cX8_isGrid 126 = .ok (.goto (-91), 3) := by decide +kernel
theorem dX8_isGrid_129 : decode cX8_isGrid 129 = .ok (.iload 7, 2) := by decide +kernel
theorem dX8_isGrid_131 : decode cX8_isGrid 131 = .ok (.ireturn, 1) := by decide +kernel
set_option maxRecDepth 20000 in
theorem ggX8_findGrid_X8_isGrid : GoodIn wsX8_findGrid wsX8_isGrid := goodIn_r _ [8, 2, 9, 10, 7, 11, 12, 13, 14, 15, 16, 17, 18, 19, 20, 21, 22, 23, 24, 25, 26, 27, 28] (by decide +kernel) (by decide +kernel)
set_option maxRecDepth 20000 in
theorem gX8_findGrid_X8_isGrid : GoodIn wsX8_findGrid (wsV RX8 144 RX8 yX8_isGrid wsX8_isGrid) := goodIn_app (goodIn_of _ (by decide +kernel)) ggX8_findGrid_X8_isGrid
theorem dX8_findGrid_0 : decode cX8_findGrid 0 = .ok (.ldc 143, 2) := by decide +kernel
theorem dX8_findGrid_2 : decode cX8_findGrid 2 = .ok (.istore_n 2, 1) := by decide +kernel
theorem dX8_findGrid_3 : decode cX8_findGrid 3 = .ok (.bipush 80, 2) := by decide +kernel
theorem dX8_findGrid_5 : decode cX8_findGrid 5 = .ok (.aload_n 0, 1) := by decide +kernel
theorem dX8_findGrid_6 : decode cX8_findGrid 6 = .ok (.getfield 23, 3) := by decide +kernel
theorem dX8_findGrid_9 : decode cX8_findGrid 9 = .ok (.iconst 0, 1) := by decide +kernel
theorem dX8_findGrid_10 : decode cX8_findGrid 10 = .ok (.iaload, 1) := by decide +kernel
theorem dX8_findGrid_11 : decode cX8_findGrid 11 = .ok (.isub, 1) := by decide +kernel
theorem dX8_findGrid_12 : decode cX8_findGrid 12 = .ok (.istore_n 3, 1) := by decide +kernel
theorem dX8_findGrid_13 : decode cX8_findGrid 13 = .ok (.iconst 1, 1) := by decide +kernel
theorem dX8_findGrid_14 : decode cX8_findGrid 14 = .ok (.istore 4, 2) := by decide +kernel
theorem dX8_findGrid_16 : decode cX8_findGrid 16 = .ok (.iload 4, 2) := by decide +kernel
theorem dX8_findGrid_18 : decode cX8_findGrid 18 = .ok (.iload_n 3, 1) := by decide +kernel
theorem dX8_findGrid_19 : decode cX8_findGrid 19 = .ok (.if_icmp .ge 144, 3) := by decide +kernel
theorem dX8_findGrid_22 : decode cX8_findGrid 22 = .ok (.iload 4, 2) := by decide +kernel
theorem dX8_findGrid_24 : decode cX8_findGrid 24 = .ok (.iconst 1, 1) := by decide +kernel
theorem dX8_findGrid_25 : decode cX8_findGrid 25 = .ok (.iadd, 1) := by decide +kernel
theorem dX8_findGrid_26 : decode cX8_findGrid 26 = .ok (.istore 5, 2) := by decide +kernel
theorem dX8_findGrid_28 : decode cX8_findGrid 28 = .ok (.iload 4, 2) := by decide +kernel
theorem dX8_findGrid_30 : decode cX8_findGrid 30 = .ok (.iload 5, 2) := by decide +kernel
theorem dX8_findGrid_32 : decode cX8_findGrid 32 = .ok (.iadd, 1) := by decide +kernel
theorem dX8_findGrid_33 : decode cX8_findGrid 33 = .ok (.iload_n 3, 1) := by decide +kernel
theorem dX8_findGrid_34 : decode cX8_findGrid 34 = .ok (.if_icmp .gt 123, 3) := by decide +kernel
theorem dX8_findGrid_37 : decode cX8_findGrid 37 = .ok (.iconst 2, 1) := by decide +kernel
theorem dX8_findGrid_38 : decode cX8_findGrid 38 = .ok (.istore 6, 2) := by decide +kernel
theorem dX8_findGrid_40 : decode cX8_findGrid 40 = .ok (.iload 6, 2) := by decide +kernel
theorem dX8_findGrid_42 : decode cX8_findGrid 42 = .ok (.iconst 1, 1) := by decide +kernel
theorem dX8_findGrid_43 : decode cX8_findGrid 43 = .ok (.isub, 1) := by decide +kernel
theorem dX8_findGrid_44 : decode cX8_findGrid 44 = .ok (.iload 4, 2) := by decide +kernel
theorem dX8_findGrid_46 : decode cX8_findGrid 46 = .ok (.imul, 1) := by decide +kernel
theorem dX8_findGrid_47 : decode cX8_findGrid 47 = .ok (.iload 5, 2) := by decide +kernel
theorem dX8_findGrid_49 : decode cX8_findGrid 49 = .ok (.iadd, 1) := by decide +kernel
theorem dX8_findGrid_50 : decode cX8_findGrid 50 = .ok (.iload_n 3, 1) := by decide +kernel
theorem dX8_findGrid_51 : decode cX8_findGrid 51 = .ok (.if_icmp .gt 100, 3) := by decide +kernel
theorem dX8_findGrid_54 : decode cX8_findGrid 54 = .ok (.iconst 2, 1) := by decide +kernel
theorem dX8_findGrid_55 : decode cX8_findGrid 55 = .ok (.istore 7, 2) := by decide +kernel
theorem dX8_findGrid_57 : decode cX8_findGrid 57 = .ok (.iload 6, 2) := by decide +kernel
theorem dX8_findGrid_59 : decode cX8_findGrid 59 = .ok (.iconst 1, 1) := by decide +kernel
theorem dX8_findGrid_60 : decode cX8_findGrid 60 = .ok (.isub, 1) := by decide +kernel
theorem dX8_findGrid_61 : decode cX8_findGrid 61 = .ok (.iload 4, 2) := by decide +kernel
theorem dX8_findGrid_63 : decode cX8_findGrid 63 = .ok (.imul, 1) := by decide +kernel
theorem dX8_findGrid_64 : decode cX8_findGrid 64 = .ok (.iload 7, 2) := by decide +kernel
theorem dX8_findGrid_66 : decode cX8_findGrid 66 = .ok (.iconst 1, 1) := by decide +kernel
theorem dX8_findGrid_67 : decode cX8_findGrid 67 = .ok (.isub, 1) := by decide +kernel
theorem dX8_findGrid_68 : decode cX8_findGrid 68 = .ok (.iload 5, 2) := by decide +kernel
theorem dX8_findGrid_70 : decode cX8_findGrid 70 = .ok (.imul, 1) := by decide +kernel
theorem dX8_findGrid_71 : decode cX8_findGrid 71 = .ok (.iadd, 1) := by decide +kernel
theorem dX8_findGrid_72 : decode cX8_findGrid 72 = .ok (.iload_n 3, 1) := by decide +kernel
theorem dX8_findGrid_73 : decode cX8_findGrid 73 = .ok (.if_icmp .gt 72, 3) := by decide +kernel
theorem dX8_findGrid_76 : decode cX8_findGrid 76 = .ok (.iload 6, 2) := by decide +kernel
theorem dX8_findGrid_78 : decode cX8_findGrid 78 = .ok (.iload 7, 2) := by decide +kernel
theorem dX8_findGrid_80 : decode cX8_findGrid 80 = .ok (.imul, 1) := by decide +kernel
theorem dX8_findGrid_81 : decode cX8_findGrid 81 = .ok (.iload_n 2, 1) := by decide +kernel
theorem dX8_findGrid_82 : decode cX8_findGrid 82 = .ok (.if_icmp .ge 63, 3) := by decide +kernel
theorem dX8_findGrid_85 : decode cX8_findGrid 85 = .ok (.aload_n 0, 1) := by decide +kernel
theorem dX8_findGrid_86 : decode cX8_findGrid 86 = .ok (.iload_n 1, 1) := by decide +kernel
theorem dX8_findGrid_87 : decode cX8_findGrid 87 = .ok (.iload 4, 2) := by decide +kernel
theorem dX8_findGrid_89 : decode cX8_findGrid 89 = .ok (.iload 5, 2) := by decide +kernel
theorem dX8_findGrid_91 : decode cX8_findGrid 91 = .ok (.iload 6, 2) := by decide +kernel
theorem dX8_findGrid_93 : decode cX8_findGrid 93 = .ok (.iload 7, 2) := by decide +kernel
theorem dX8_findGrid_95 : decode cX8_findGrid 95 = .ok (.invokevirtual 144, 3) := by decide +kernel
theorem dX8_findGrid_98 : decode cX8_findGrid 98 = .ok (.ifCond .eq 41, 3) := by decide +kernel
theorem dX8_findGrid_101 : decode cX8_findGrid 101 = .ok (.iload 6, 2) := by decide +kernel
theorem dX8_findGrid_103 : decode cX8_findGrid 103 = .ok (.iload 7, 2) := by decide +kernel
theorem dX8_findGrid_105 : decode cX8_findGrid 105 = .ok (.imul, 1) := by decide +kernel
theorem dX8_findGrid_106 : decode cX8_findGrid 106 = .ok (.istore_n 2, 1) := by decide +kernel
theorem dX8_findGrid_107 : decode cX8_findGrid 107 = .ok (.aload_n 0, 1) := by decide +kernel
theorem dX8_findGrid_108 : decode cX8_findGrid 108 = .ok (.getfield 35, 3) := by decide +kernel
theorem dX8_findGrid_111 : decode cX8_findGrid 111 = .ok (.iconst 1, 1) := by decide +kernel
theorem dX8_findGrid_112 : decode cX8_findGrid 112 = .ok (.iload 4, 2) := by decide +kernel
theorem dX8_findGrid_114 : decode cX8_findGrid 114 = .ok (.iastore, 1) := by decide +kernel
theorem dX8_findGrid_115 : decode cX8_findGrid 115 = .ok (.aload_n 0, 1) := by decide +kernel
theorem dX8_findGrid_116 : decode cX8_findGrid 116 = .ok (.getfield 35, 3) := by decide +kernel
theorem dX8_findGrid_119 : decode cX8_findGrid 119 = .ok (.iconst 2, 1) := by decide +kernel
theorem dX8_findGrid_120 : decode cX8_findGrid 120 = .ok (.iload 5, 2) := by decide +kernel
theorem dX8_findGrid_122 : decode cX8_findGrid 122 = .ok (.iastore, 1) := by decide +kernel
theorem dX8_findGrid_123 : decode cX8_findGrid 123 = .ok (.aload_n 0, 1) := by decide +kernel
theorem dX8_findGrid_124 : decode cX8_findGrid 124 = .ok (.getfield 35, 3) := by decide +kernel
theorem dX8_findGrid_127 : decode cX8_findGrid 127 = .ok (.iconst 3, 1) := by decide +kernel
theorem dX8_findGrid_128 : decode cX8_findGrid 128 = .ok (.iload 6, 2) := by decide +kernel
theorem dX8_findGrid_130 : decode cX8_findGrid 130 = .ok (.iastore, 1) := by decide +kernel
theorem dX8_findGrid_131 : decode cX8_findGrid 131 = .ok (.aload_n 0, 1) := by decide +kernel
theorem dX8_findGrid_132 : decode cX8_findGrid 132 = .ok (.getfield 35, 3) := by decide +kernel
theorem dX8_findGrid_135 : decode cX8_findGrid 135 = .ok (.iconst 4, 1) := by decide +kernel
theorem dX8_findGrid_136 : decode cX8_findGrid 136 = .ok (.iload 7, 2) := by decide +kernel
theorem dX8_findGrid_138 : decode cX8_findGrid 138 = .ok (.iastore, 1) := by decide +kernel
theorem dX8_findGrid_139 : decode cX8_findGrid 139 = .ok (.iinc 7 1, 3) := by decide +kernel
theorem dX8_findGrid_142 : decode cX8_findGrid 142 = .ok (.goto (-85), 3) := by decide +kernel
theorem dX8_findGrid_145 : decode cX8_findGrid 145 = .ok (.iinc 6 1, 3) := by decide +kernel
theorem dX8_findGrid_148 : decode cX8_findGrid 148 = .ok (.goto (-108), 3) := by decide +kernel
theorem dX8_findGrid_151 : decode cX8_findGrid 151 = .ok (.iinc 5 1, 3) := by decide +kernel
theorem dX8_findGrid_154 : decode cX8_findGrid 154 = .ok (.goto (-126), 3) := by decide +kernel
theorem dX8_findGrid_157 : decode cX8_findGrid 157 = .ok (.iinc 4 1, 3) := by decide +kernel
theorem dX8_findGrid_160 : decode cX8_findGrid 160 = .ok (.goto (-144), 3) := by decide +kernel
theorem dX8_findGrid_163 : decode cX8_findGrid 163 = .ok (.aload_n 0, 1) := by decide +kernel
theorem dX8_findGrid_164 : decode cX8_findGrid 164 = .ok (.getfield 35, 3) := by decide +kernel
theorem dX8_findGrid_167 : decode cX8_findGrid 167 = .ok (.iconst 0, 1) := by decide +kernel
theorem dX8_findGrid_168 : decode cX8_findGrid 168 = .ok (.aload_n 0, 1) := by decide +kernel
theorem dX8_findGrid_169 : decode cX8_findGrid 169 = .ok (.getfield 23, 3) := by decide +kernel
theorem dX8_findGrid_172 : decode cX8_findGrid 172 = .ok (.iconst 0, 1) := by decide +kernel
theorem dX8_findGrid_173 : decode cX8_findGrid 173 = .ok (.iaload, 1) := by decide +kernel
theorem dX8_findGrid_174 : decode cX8_findGrid 174 = .ok (.iastore, 1) := by decide +kernel
theorem dX8_findGrid_175 : decode cX8_findGrid 175 = .ok (.iload_n 2, 1) := by decide +kernel
theorem dX8_findGrid_176 : decode cX8_findGrid 176 = .ok (.ldc 143, 2) := by decide +kernel
theorem dX8_findGrid_178 : decode cX8_findGrid 178 = .ok (.if_icmp .ge 7, 3) := by decide +kernel
theorem dX8_findGrid_181 : decode cX8_findGrid 181 = .ok (.iconst 1, 1) := by decide +kernel
theorem dX8_findGrid_182 : decode cX8_findGrid 182 = .ok (.goto 4, 3) := by decide +kernel
theorem dX8_findGrid_185 : decode cX8_findGrid 185 = .ok (.iconst 0, 1) := by decide +kernel
theorem dX8_findGrid_186 : decode cX8_findGrid 186 = .ok (.ireturn, 1) := by decide +kernel
set_option maxRecDepth 20000 in
theorem ggX8_grid_X8_isSlot : GoodIn wsX8_grid wsX8_isSlot := goodIn_r _ [7, 8, 9, 10, 6, 11] (by decide +kernel) (by decide +kernel)
set_option maxRecDepth 20000 in
theorem gX8_grid_X8_isSlot : GoodIn wsX8_grid (va_wsS RX8 87 yX8_isSlot wsX8_isSlot) := goodIn_app (goodIn_of _ (by decide +kernel)) ggX8_grid_X8_isSlot
set_option maxRecDepth 20000 in
theorem ggX8_grid_X8_in : GoodIn wsX8_grid wsX8_in := goodIn_r _ [11] (by decide +kernel) (by decide +kernel)
set_option maxRecDepth 20000 in
theorem gX8_grid_X8_in : GoodIn wsX8_grid (va_wsS RX8 43 yX8_in wsX8_in) := goodIn_app (goodIn_of _ (by decide +kernel)) ggX8_grid_X8_in
set_option maxRecDepth 20000 in
theorem ggX8_grid_X8_lists : GoodIn wsX8_grid wsX8_lists := goodIn_r _ [15, 16, 29, 30, 31, 32, 33, 34, 35, 36, 37, 38, 39, 40, 41, 42, 43, 44, 45] (by decide +kernel) (by decide +kernel)
set_option maxRecDepth 20000 in
theorem gX8_grid_X8_lists : GoodIn wsX8_grid (wsV RX8 99 RX8 yX8_lists wsX8_lists) := goodIn_app (goodIn_of _ (by decide +kernel)) ggX8_grid_X8_lists
set_option maxRecDepth 20000 in
theorem ggX8_grid_X8_findGrid : GoodIn wsX8_grid wsX8_findGrid := goodIn_r _ [20, 21, 2, 3, 22, 23, 24, 6, 25, 26, 27, 28, 29, 30, 31, 32, 33, 34, 35, 36, 37, 38, 39, 40, 41, 42, 43, 44, 45] (by decide +kernel) (by decide +kernel)
set_option maxRecDepth 20000 in
theorem gX8_grid_X8_findGrid : GoodIn wsX8_grid (wsV RX8 150 RX8 yX8_findGrid wsX8_findGrid) := goodIn_app (goodIn_of _ (by decide +kernel)) ggX8_grid_X8_findGrid
theorem dX8_grid_0 : decode cX8_grid 0 = .ok (.iload_n 1, 1) := by decide +kernel
theorem dX8_grid_1 : decode cX8_grid 1 = .ok (.invokestatic 87, 3) := by decide +kernel
theorem dX8_grid_4 : decode cX8_grid 4 = .ok (.ifCond .eq 15, 3) := by decide +kernel
theorem dX8_grid_7 : decode cX8_grid 7 = .ok (.iload_n 2, 1) := by decide +kernel
theorem dX8_grid_8 : decode cX8_grid 8 = .ok (.i2l, 1) := by decide +kernel
theorem dX8_grid_9 : decode cX8_grid 9 = .ok (.lconst 0, 1) := by decide +kernel
theorem dX8_grid_10 : decode cX8_grid 10 = .ok (.ldc2_w 148, 3) := by decide +kernel
theorem dX8_grid_13 : decode cX8_grid 13 = .ok (.invokestatic 43, 3) := by decide +kernel
theorem dX8_grid_16 : decode cX8_grid 16 = .ok (.ifCond .ne 5, 3) := by decide +kernel
theorem dX8_grid_19 : decode cX8_grid 19 = .ok (.iconst (-1), 1) := by decide +kernel
theorem dX8_grid_20 : decode cX8_grid 20 = .ok (.ireturn, 1) := by decide +kernel
theorem dX8_grid_21 : decode cX8_grid 21 = .ok (.aload_n 0, 1) := by decide +kernel
theorem dX8_grid_22 : decode cX8_grid 22 = .ok (.iload_n 1, 1) := by decide +kernel
theorem dX8_grid_23 : decode cX8_grid 23 = .ok (.aload_n 0, 1) := by decide +kernel
theorem dX8_grid_24 : decode cX8_grid 24 = .ok (.getfield 23, 3) := by decide +kernel
theorem dX8_grid_27 : decode cX8_grid 27 = .ok (.invokevirtual 99, 3) := by decide +kernel
theorem dX8_grid_30 : decode cX8_grid 30 = .ok (.istore_n 3, 1) := by decide +kernel
theorem dX8_grid_31 : decode cX8_grid 31 = .ok (.iload_n 3, 1) := by decide +kernel
theorem dX8_grid_32 : decode cX8_grid 32 = .ok (.ifCond .ne 6, 3) := by decide +kernel
theorem dX8_grid_35 : decode cX8_grid 35 = .ok (.bipush (-2), 2) := by decide +kernel
theorem dX8_grid_37 : decode cX8_grid 37 = .ok (.ireturn, 1) := by decide +kernel
theorem dX8_grid_38 : decode cX8_grid 38 = .ok (.aload_n 0, 1) := by decide +kernel
theorem dX8_grid_39 : decode cX8_grid 39 = .ok (.iload_n 3, 1) := by decide +kernel
theorem dX8_grid_40 : decode cX8_grid 40 = .ok (.invokevirtual 150, 3) := by decide +kernel
theorem dX8_grid_43 : decode cX8_grid 43 = .ok (.ifCond .eq 12, 3) := by decide +kernel
theorem dX8_grid_46 : decode cX8_grid 46 = .ok (.aload_n 0, 1) := by decide +kernel
theorem dX8_grid_47 : decode cX8_grid 47 = .ok (.getfield 35, 3) := by decide +kernel
theorem dX8_grid_50 : decode cX8_grid 50 = .ok (.iload_n 2, 1) := by decide +kernel
theorem dX8_grid_51 : decode cX8_grid 51 = .ok (.iaload, 1) := by decide +kernel
theorem dX8_grid_52 : decode cX8_grid 52 = .ok (.goto 5, 3) := by decide +kernel
theorem dX8_grid_55 : decode cX8_grid 55 = .ok (.bipush (-4), 2) := by decide +kernel
theorem dX8_grid_57 : decode cX8_grid 57 = .ok (.ireturn, 1) := by decide +kernel
theorem dX8_isPairing_0 : decode cX8_isPairing 0 = .ok (.iconst 1, 1) := by decide +kernel
theorem dX8_isPairing_1 : decode cX8_isPairing 1 = .ok (.istore_n 2, 1) := by decide +kernel
theorem dX8_isPairing_2 : decode cX8_isPairing 2 = .ok (.iconst 0, 1) := by decide +kernel
theorem dX8_isPairing_3 : decode cX8_isPairing 3 = .ok (.istore_n 3, 1) := by decide +kernel
theorem dX8_isPairing_4 : decode cX8_isPairing 4 = .ok (.iload_n 3, 1) := by decide +kernel
theorem dX8_isPairing_5 : decode cX8_isPairing 5 = .ok (.iload_n 1, 1) := by decide +kernel
theorem dX8_isPairing_6 : decode cX8_isPairing 6 = .ok (.iload_n 1, 1) := by decide +kernel
theorem dX8_isPairing_7 : decode cX8_isPairing 7 = .ok (.imul, 1) := by decide +kernel
theorem dX8_isPairing_8 : decode cX8_isPairing 8 = .ok (.if_icmp .ge 157, 3) := by decide +kernel
theorem dX8_isPairing_11 : decode cX8_isPairing 11 = .ok (.iload_n 2, 1) := by decide +kernel
theorem dX8_isPairing_12 : decode cX8_isPairing 12 = .ok (.ifCond .eq 153, 3) := by decide +kernel
theorem dX8_isPairing_15 : decode cX8_isPairing 15 = .ok (.iconst 0, 1) := by decide +kernel
theorem dX8_isPairing_16 : decode cX8_isPairing 16 = .ok (.istore 4, 2) := by decide +kernel
theorem dX8_isPairing_18 : decode cX8_isPairing 18 = .ok (.iload 4, 2) := by decide +kernel
theorem dX8_isPairing_20 : decode cX8_isPairing 20 = .ok (.iload_n 3, 1) := by decide +kernel
theorem dX8_isPairing_21 : decode cX8_isPairing 21 = .ok (.if_icmp .ge 138, 3) := by decide +kernel
theorem dX8_isPairing_24 : decode cX8_isPairing 24 = .ok (.iload_n 2, 1) := by decide +kernel
theorem dX8_isPairing_25 : decode cX8_isPairing 25 = .ok (.ifCond .eq 134, 3) := by decide +kernel
theorem dX8_isPairing_28 : decode cX8_isPairing 28 = .ok (.aload_n 0, 1) := by decide +kernel
theorem dX8_isPairing_29 : decode cX8_isPairing 29 = .ok (.getfield 23, 3) := by decide +kernel
theorem dX8_isPairing_32 : decode cX8_isPairing 32 = .ok (.iload_n 3, 1) := by decide +kernel
theorem dX8_isPairing_33 : decode cX8_isPairing 33 = .ok (.iload_n 1, 1) := by decide +kernel
theorem dX8_isPairing_34 : decode cX8_isPairing 34 = .ok (.idiv, 1) := by decide +kernel
theorem dX8_isPairing_35 : decode cX8_isPairing 35 = .ok (.iaload, 1) := by decide +kernel
theorem dX8_isPairing_36 : decode cX8_isPairing 36 = .ok (.aload_n 0, 1) := by decide +kernel
theorem dX8_isPairing_37 : decode cX8_isPairing 37 = .ok (.getfield 23, 3) := by decide +kernel
theorem dX8_isPairing_40 : decode cX8_isPairing 40 = .ok (.iload_n 3, 1) := by decide +kernel
theorem dX8_isPairing_41 : decode cX8_isPairing 41 = .ok (.iload_n 1, 1) := by decide +kernel
theorem dX8_isPairing_42 : decode cX8_isPairing 42 = .ok (.irem, 1) := by decide +kernel
theorem dX8_isPairing_43 : decode cX8_isPairing 43 = .ok (.iaload, 1) := by decide +kernel
theorem dX8_isPairing_44 : decode cX8_isPairing 44 = .ok (.iadd, 1) := by decide +kernel
theorem dX8_isPairing_45 : decode cX8_isPairing 45 = .ok (.aload_n 0, 1) := by decide +kernel
theorem dX8_isPairing_46 : decode cX8_isPairing 46 = .ok (.getfield 23, 3) := by decide +kernel
theorem dX8_isPairing_49 : decode cX8_isPairing 49 = .ok (.iload 4, 2) := by decide +kernel
theorem dX8_isPairing_51 : decode cX8_isPairing 51 = .ok (.iload_n 1, 1) := by decide +kernel
theorem dX8_isPairing_52 : decode cX8_isPairing 52 = .ok (.idiv, 1) := by decide +kernel
theorem dX8_isPairing_53 : decode cX8_isPairing 53 = .ok (.iaload, 1) := by decide +kernel
theorem dX8_isPairing_54 : decode cX8_isPairing 54 = .ok (.aload_n 0, 1) := by decide +kernel
theorem dX8_isPairing_55 : decode cX8_isPairing 55 = .ok (.getfield 23, 3) := by decide +kernel
theorem dX8_isPairing_58 : decode cX8_isPairing 58 = .ok (.iload 4, 2) := by decide +kernel
theorem dX8_isPairing_60 : decode cX8_isPairing 60 = .ok (.iload_n 1, 1) := by decide +kernel
theorem dX8_isPairing_61 : decode cX8_isPairing 61 = .ok (.irem, 1) := by decide +kernel
theorem dX8_isPairing_62 : decode cX8_isPairing 62 = .ok (.iaload, 1) := by decide +kernel
theorem dX8_isPairing_63 : decode cX8_isPairing 63 = .ok (.iadd, 1) := by decide +kernel
theorem dX8_isPairing_64 : decode cX8_isPairing 64 = .ok (.if_icmp .ne 7, 3) := by decide +kernel
theorem dX8_isPairing_67 : decode cX8_isPairing 67 = .ok (.iconst 1, 1) := by decide +kernel
theorem dX8_isPairing_68 : decode cX8_isPairing 68 = .ok (.goto 4, 3) := by decide +kernel
theorem dX8_isPairing_71 : decode cX8_isPairing 71 = .ok (.iconst 0, 1) := by decide +kernel
theorem dX8_isPairing_72 : decode cX8_isPairing 72 = .ok (.istore 5, 2) := by decide +kernel
theorem dX8_isPairing_74 : decode cX8_isPairing 74 = .ok (.aload_n 0, 1) := by decide +kernel
theorem dX8_isPairing_75 : decode cX8_isPairing 75 = .ok (.getfield 26, 3) := by decide +kernel
theorem dX8_isPairing_78 : decode cX8_isPairing 78 = .ok (.aload_n 0, 1) := by decide +kernel
theorem dX8_isPairing_79 : decode cX8_isPairing 79 = .ok (.getfield 38, 3) := by decide +kernel
theorem dX8_isPairing_82 : decode cX8_isPairing 82 = .ok (.iload_n 3, 1) := by decide +kernel
theorem dX8_isPairing_83 : decode cX8_isPairing 83 = .ok (.iload_n 1, 1) := by decide +kernel
theorem dX8_isPairing_84 : decode cX8_isPairing 84 = .ok (.idiv, 1) := by decide +kernel
theorem dX8_isPairing_85 : decode cX8_isPairing 85 = .ok (.iaload, 1) := by decide +kernel
theorem dX8_isPairing_86 : decode cX8_isPairing 86 = .ok (.iaload, 1) := by decide +kernel
theorem dX8_isPairing_87 : decode cX8_isPairing 87 = .ok (.aload_n 0, 1) := by decide +kernel
theorem dX8_isPairing_88 : decode cX8_isPairing 88 = .ok (.getfield 26, 3) := by decide +kernel
theorem dX8_isPairing_91 : decode cX8_isPairing 91 = .ok (.aload_n 0, 1) := by decide +kernel
theorem dX8_isPairing_92 : decode cX8_isPairing 92 = .ok (.getfield 38, 3) := by decide +kernel
theorem dX8_isPairing_95 : decode cX8_isPairing 95 = .ok (.iload_n 3, 1) := by decide +kernel
theorem dX8_isPairing_96 : decode cX8_isPairing 96 = .ok (.iload_n 1, 1) := by decide +kernel
theorem dX8_isPairing_97 : decode cX8_isPairing 97 = .ok (.irem, 1) := by decide +kernel
theorem dX8_isPairing_98 : decode cX8_isPairing 98 = .ok (.iaload, 1) := by decide +kernel
theorem dX8_isPairing_99 : decode cX8_isPairing 99 = .ok (.iaload, 1) := by decide +kernel
theorem dX8_isPairing_100 : decode cX8_isPairing 100 = .ok (.iadd, 1) := by decide +kernel
theorem dX8_isPairing_101 : decode cX8_isPairing 101 = .ok (.aload_n 0, 1) := by decide +kernel
theorem dX8_isPairing_102 : decode cX8_isPairing 102 = .ok (.getfield 26, 3) := by decide +kernel
theorem dX8_isPairing_105 : decode cX8_isPairing 105 = .ok (.aload_n 0, 1) := by decide +kernel
theorem dX8_isPairing_106 : decode cX8_isPairing 106 = .ok (.getfield 38, 3) := by decide +kernel
theorem dX8_isPairing_109 : decode cX8_isPairing 109 = .ok (.iload 4, 2) := by decide +kernel
theorem dX8_isPairing_111 : decode cX8_isPairing 111 = .ok (.iload_n 1, 1) := by decide +kernel
theorem dX8_isPairing_112 : decode cX8_isPairing 112 = .ok (.idiv, 1) := by decide +kernel
theorem dX8_isPairing_113 : decode cX8_isPairing 113 = .ok (.iaload, 1) := by decide +kernel
theorem dX8_isPairing_114 : decode cX8_isPairing 114 = .ok (.iaload, 1) := by decide +kernel
theorem dX8_isPairing_115 : decode cX8_isPairing 115 = .ok (.aload_n 0, 1) := by decide +kernel
theorem dX8_isPairing_116 : decode cX8_isPairing 116 = .ok (.getfield 26, 3) := by decide +kernel
theorem dX8_isPairing_119 : decode cX8_isPairing 119 = .ok (.aload_n 0, 1) := by decide +kernel
theorem dX8_isPairing_120 : decode cX8_isPairing 120 = .ok (.getfield 38, 3) := by decide +kernel
theorem dX8_isPairing_123 : decode cX8_isPairing 123 = .ok (.iload 4, 2) := by decide +kernel
theorem dX8_isPairing_125 : decode cX8_isPairing 125 = .ok (.iload_n 1, 1) := by decide +kernel
theorem dX8_isPairing_126 : decode cX8_isPairing 126 = .ok (.irem, 1) := by decide +kernel
theorem dX8_isPairing_127 : decode cX8_isPairing 127 = .ok (.iaload, 1) := by decide +kernel
theorem dX8_isPairing_128 : decode cX8_isPairing 128 = .ok (.iaload, 1) := by decide +kernel
theorem dX8_isPairing_129 : decode cX8_isPairing 129 = .ok (.iadd, 1) := by decide +kernel
theorem dX8_isPairing_130 : decode cX8_isPairing 130 = .ok (.if_icmp .ne 7, 3) := by decide +kernel
theorem dX8_isPairing_133 : decode cX8_isPairing 133 = .ok (.iconst 1, 1) := by decide +kernel
theorem dX8_isPairing_134 : decode cX8_isPairing 134 = .ok (.goto 4, 3) := by decide +kernel
theorem dX8_isPairing_137 : decode cX8_isPairing 137 = .ok (.iconst 0, 1) := by decide +kernel
theorem dX8_isPairing_138 : decode cX8_isPairing 138 = .ok (.istore 6, 2) := by decide +kernel
theorem dX8_isPairing_140 : decode cX8_isPairing 140 = .ok (.iload 5, 2) := by decide +kernel
theorem dX8_isPairing_142 : decode cX8_isPairing 142 = .ok (.iload 6, 2) := by decide +kernel
theorem dX8_isPairing_144 : decode cX8_isPairing 144 = .ok (.if_icmp .ne 7, 3) := by decide +kernel
theorem dX8_isPairing_147 : decode cX8_isPairing 147 = .ok (.iconst 1, 1) := by decide +kernel
theorem dX8_isPairing_148 : decode cX8_isPairing 148 = .ok (.goto 4, 3) := by decide +kernel
theorem dX8_isPairing_151 : decode cX8_isPairing 151 = .ok (.iconst 0, 1) := by decide +kernel
theorem dX8_isPairing_152 : decode cX8_isPairing 152 = .ok (.istore_n 2, 1) := by decide +kernel
theorem dX8_isPairing_153 : decode cX8_isPairing 153 = .ok (.iinc 4 1, 3) := by decide +kernel
theorem dX8_isPairing_156 : decode cX8_isPairing 156 = .ok (.goto (-138), 3) := by decide +kernel
theorem dX8_isPairing_159 : decode cX8_isPairing 159 = .ok (.iinc 3 1, 3) := by decide +kernel
theorem dX8_isPairing_162 : decode cX8_isPairing 162 = .ok (.goto (-158), 3) := by decide +kernel
theorem dX8_isPairing_165 : decode cX8_isPairing 165 = .ok (.iload_n 2, 1) := by decide +kernel
theorem dX8_isPairing_166 : decode cX8_isPairing 166 = .ok (.ireturn, 1) := by decide +kernel
theorem dX8_nextOrder_0 : decode cX8_nextOrder 0 = .ok (.iload_n 1, 1) := by decide +kernel
theorem dX8_nextOrder_1 : decode cX8_nextOrder 1 = .ok (.iconst 2, 1) := by decide +kernel
theorem dX8_nextOrder_2 : decode cX8_nextOrder 2 = .ok (.isub, 1) := by decide +kernel
theorem dX8_nextOrder_3 : decode cX8_nextOrder 3 = .ok (.istore_n 2, 1) := by decide +kernel
theorem dX8_nextOrder_4 : decode cX8_nextOrder 4 = .ok (.iload_n 2, 1) := by decide +kernel
theorem dX8_nextOrder_5 : decode cX8_nextOrder 5 = .ok (.ifCond .lt 26, 3) := by decide +kernel
theorem dX8_nextOrder_8 : decode cX8_nextOrder 8 = .ok (.aload_n 0, 1) := by decide +kernel
theorem dX8_nextOrder_9 : decode cX8_nextOrder 9 = .ok (.getfield 38, 3) := by decide +kernel
theorem dX8_nextOrder_12 : decode cX8_nextOrder 12 = .ok (.iload_n 2, 1) := by decide +kernel
theorem dX8_nextOrder_13 : decode cX8_nextOrder 13 = .ok (.iaload, 1) := by decide +kernel
theorem dX8_nextOrder_14 : decode cX8_nextOrder 14 = .ok (.aload_n 0, 1) := by decide +kernel
theorem dX8_nextOrder_15 : decode cX8_nextOrder 15 = .ok (.getfield 38, 3) := by decide +kernel
theorem dX8_nextOrder_18 : decode cX8_nextOrder 18 = .ok (.iload_n 2, 1) := by decide +kernel
theorem dX8_nextOrder_19 : decode cX8_nextOrder 19 = .ok (.iconst 1, 1) := by decide +kernel
theorem dX8_nextOrder_20 : decode cX8_nextOrder 20 = .ok (.iadd, 1) := by decide +kernel
theorem dX8_nextOrder_21 : decode cX8_nextOrder 21 = .ok (.iaload, 1) := by decide +kernel
theorem dX8_nextOrder_22 : decode cX8_nextOrder 22 = .ok (.if_icmp .le 9, 3) := by decide +kernel
theorem dX8_nextOrder_25 : decode cX8_nextOrder 25 = .ok (.iinc 2 (-1), 3) := by decide +kernel
theorem dX8_nextOrder_28 : decode cX8_nextOrder 28 = .ok (.goto (-24), 3) := by decide +kernel
theorem dX8_nextOrder_31 : decode cX8_nextOrder 31 = .ok (.iload_n 2, 1) := by decide +kernel
theorem dX8_nextOrder_32 : decode cX8_nextOrder 32 = .ok (.ifCond .ge 5, 3) := by decide +kernel
theorem dX8_nextOrder_35 : decode cX8_nextOrder 35 = .ok (.iconst 0, 1) := by decide +kernel
theorem dX8_nextOrder_36 : decode cX8_nextOrder 36 = .ok (.ireturn, 1) := by decide +kernel
theorem dX8_nextOrder_37 : decode cX8_nextOrder 37 = .ok (.iload_n 1, 1) := by decide +kernel
theorem dX8_nextOrder_38 : decode cX8_nextOrder 38 = .ok (.iconst 1, 1) := by decide +kernel
theorem dX8_nextOrder_39 : decode cX8_nextOrder 39 = .ok (.isub, 1) := by decide +kernel
theorem dX8_nextOrder_40 : decode cX8_nextOrder 40 = .ok (.istore_n 3, 1) := by decide +kernel
theorem dX8_nextOrder_41 : decode cX8_nextOrder 41 = .ok (.aload_n 0, 1) := by decide +kernel
theorem dX8_nextOrder_42 : decode cX8_nextOrder 42 = .ok (.getfield 38, 3) := by decide +kernel
theorem dX8_nextOrder_45 : decode cX8_nextOrder 45 = .ok (.iload_n 3, 1) := by decide +kernel
theorem dX8_nextOrder_46 : decode cX8_nextOrder 46 = .ok (.iaload, 1) := by decide +kernel
theorem dX8_nextOrder_47 : decode cX8_nextOrder 47 = .ok (.aload_n 0, 1) := by decide +kernel
theorem dX8_nextOrder_48 : decode cX8_nextOrder 48 = .ok (.getfield 38, 3) := by decide +kernel
theorem dX8_nextOrder_51 : decode cX8_nextOrder 51 = .ok (.iload_n 2, 1) := by decide +kernel
theorem dX8_nextOrder_52 : decode cX8_nextOrder 52 = .ok (.iaload, 1) := by decide +kernel
theorem dX8_nextOrder_53 : decode cX8_nextOrder 53 = .ok (.if_icmp .ge 9, 3) := by decide +kernel
theorem dX8_nextOrder_56 : decode cX8_nextOrder 56 = .ok (.iinc 3 (-1), 3) := by decide +kernel
theorem dX8_nextOrder_59 : decode cX8_nextOrder 59 = .ok (.goto (-18), 3) := by decide +kernel
theorem dX8_nextOrder_62 : decode cX8_nextOrder 62 = .ok (.aload_n 0, 1) := by decide +kernel
theorem dX8_nextOrder_63 : decode cX8_nextOrder 63 = .ok (.getfield 38, 3) := by decide +kernel
theorem dX8_nextOrder_66 : decode cX8_nextOrder 66 = .ok (.iload_n 2, 1) := by decide +kernel
theorem dX8_nextOrder_67 : decode cX8_nextOrder 67 = .ok (.iaload, 1) := by decide +kernel
theorem dX8_nextOrder_68 : decode cX8_nextOrder 68 = .ok (.istore 4, 2) := by decide +kernel
theorem dX8_nextOrder_70 : decode cX8_nextOrder 70 = .ok (.aload_n 0, 1) := by decide +kernel
theorem dX8_nextOrder_71 : decode cX8_nextOrder 71 = .ok (.getfield 38, 3) := by decide +kernel
theorem dX8_nextOrder_74 : decode cX8_nextOrder 74 = .ok (.iload_n 2, 1) := by decide +kernel
theorem dX8_nextOrder_75 : decode cX8_nextOrder 75 = .ok (.aload_n 0, 1) := by decide +kernel
theorem dX8_nextOrder_76 : decode cX8_nextOrder 76 = .ok (.getfield 38, 3) := by decide +kernel
theorem dX8_nextOrder_79 : decode cX8_nextOrder 79 = .ok (.iload_n 3, 1) := by decide +kernel
theorem dX8_nextOrder_80 : decode cX8_nextOrder 80 = .ok (.iaload, 1) := by decide +kernel
theorem dX8_nextOrder_81 : decode cX8_nextOrder 81 = .ok (.iastore, 1) := by decide +kernel
theorem dX8_nextOrder_82 : decode cX8_nextOrder 82 = .ok (.aload_n 0, 1) := by decide +kernel
theorem dX8_nextOrder_83 : decode cX8_nextOrder 83 = .ok (.getfield 38, 3) := by decide +kernel
theorem dX8_nextOrder_86 : decode cX8_nextOrder 86 = .ok (.iload_n 3, 1) := by decide +kernel
theorem dX8_nextOrder_87 : decode cX8_nextOrder 87 = .ok (.iload 4, 2) := by decide +kernel
theorem dX8_nextOrder_89 : decode cX8_nextOrder 89 = .ok (.iastore, 1) := by decide +kernel
theorem dX8_nextOrder_90 : decode cX8_nextOrder 90 = .ok (.iload_n 2, 1) := by decide +kernel
theorem dX8_nextOrder_91 : decode cX8_nextOrder 91 = .ok (.iconst 1, 1) := by decide +kernel
theorem dX8_nextOrder_92 : decode cX8_nextOrder 92 = .ok (.iadd, 1) := by decide +kernel
theorem dX8_nextOrder_93 : decode cX8_nextOrder 93 = .ok (.istore 5, 2) := by decide +kernel
theorem dX8_nextOrder_95 : decode cX8_nextOrder 95 = .ok (.iload_n 1, 1) := by decide +kernel
theorem dX8_nextOrder_96 : decode cX8_nextOrder 96 = .ok (.iconst 1, 1) := by decide +kernel
theorem dX8_nextOrder_97 : decode cX8_nextOrder 97 = .ok (.isub, 1) := by decide +kernel
theorem dX8_nextOrder_98 : decode cX8_nextOrder 98 = .ok (.istore 6, 2) := by decide +kernel
theorem dX8_nextOrder_100 : decode cX8_nextOrder 100 = .ok (.iload 5, 2) := by decide +kernel
theorem dX8_nextOrder_102 : decode cX8_nextOrder 102 = .ok (.iload 6, 2) := by decide +kernel
theorem dX8_nextOrder_104 : decode cX8_nextOrder 104 = .ok (.if_icmp .ge 44, 3) := by decide +kernel
theorem dX8_nextOrder_107 : decode cX8_nextOrder 107 = .ok (.aload_n 0, 1) := by decide +kernel
theorem dX8_nextOrder_108 : decode cX8_nextOrder 108 = .ok (.getfield 38, 3) := by decide +kernel
theorem dX8_nextOrder_111 : decode cX8_nextOrder 111 = .ok (.iload 5, 2) := by decide +kernel
theorem dX8_nextOrder_113 : decode cX8_nextOrder 113 = .ok (.iaload, 1) := by decide +kernel
theorem dX8_nextOrder_114 : decode cX8_nextOrder 114 = .ok (.istore 4, 2) := by decide +kernel
theorem dX8_nextOrder_116 : decode cX8_nextOrder 116 = .ok (.aload_n 0, 1) := by decide +kernel
theorem dX8_nextOrder_117 : decode cX8_nextOrder 117 = .ok (.getfield 38, 3) := by decide +kernel
theorem dX8_nextOrder_120 : decode cX8_nextOrder 120 = .ok (.iload 5, 2) := by decide +kernel
theorem dX8_nextOrder_122 : decode cX8_nextOrder 122 = .ok (.aload_n 0, 1) := by decide +kernel
theorem dX8_nextOrder_123 : decode cX8_nextOrder 123 = .ok (.getfield 38, 3) := by decide +kernel
theorem dX8_nextOrder_126 : decode cX8_nextOrder 126 = .ok (.iload 6, 2) := by decide +kernel
theorem dX8_nextOrder_128 : decode cX8_nextOrder 128 = .ok (.iaload, 1) := by decide +kernel
theorem dX8_nextOrder_129 : decode cX8_nextOrder 129 = .ok (.iastore, 1) := by decide +kernel
theorem dX8_nextOrder_130 : decode cX8_nextOrder 130 = .ok (.aload_n 0, 1) := by decide +kernel
theorem dX8_nextOrder_131 : decode cX8_nextOrder 131 = .ok (.getfield 38, 3) := by decide +kernel
theorem dX8_nextOrder_134 : decode cX8_nextOrder 134 = .ok (.iload 6, 2) := by decide +kernel
theorem dX8_nextOrder_136 : decode cX8_nextOrder 136 = .ok (.iload 4, 2) := by decide +kernel
theorem dX8_nextOrder_138 : decode cX8_nextOrder 138 = .ok (.iastore, 1) := by decide +kernel
theorem dX8_nextOrder_139 : decode cX8_nextOrder 139 = .ok (.iinc 5 1, 3) := by decide +kernel
theorem dX8_nextOrder_142 : decode cX8_nextOrder 142 = .ok (.iinc 6 (-1), 3) := by decide +kernel
theorem dX8_nextOrder_145 : decode cX8_nextOrder 145 = .ok (.goto (-45), 3) := by decide +kernel
theorem dX8_nextOrder_148 : decode cX8_nextOrder 148 = .ok (.iconst 1, 1) := by decide +kernel
theorem dX8_nextOrder_149 : decode cX8_nextOrder 149 = .ok (.ireturn, 1) := by decide +kernel
set_option maxRecDepth 20000 in
theorem ggX8_findPairing_X8_isPairing : GoodIn wsX8_findPairing wsX8_isPairing := goodIn_r _ [6, 7, 8, 1, 13, 14, 15, 16, 17, 18, 19, 20, 21, 22, 23, 24, 25, 26, 27, 28, 29] (by decide +kernel) (by decide +kernel)
set_option maxRecDepth 20000 in
theorem gX8_findPairing_X8_isPairing : GoodIn wsX8_findPairing (wsV RX8 153 RX8 yX8_isPairing wsX8_isPairing) := goodIn_app (goodIn_of _ (by decide +kernel)) ggX8_findPairing_X8_isPairing
set_option maxRecDepth 20000 in
theorem ggX8_findPairing_X8_nextOrder : GoodIn wsX8_findPairing wsX8_nextOrder := goodIn_r _ [12, 1, 13, 14, 15, 16, 17, 18, 19, 20, 21, 22, 23, 24, 25, 26, 27, 28, 29] (by decide +kernel) (by decide +kernel)
set_option maxRecDepth 20000 in
theorem gX8_findPairing_X8_nextOrder : GoodIn wsX8_findPairing (wsV RX8 156 RX8 yX8_nextOrder wsX8_nextOrder) := goodIn_app (goodIn_of _ (by decide +kernel)) ggX8_findPairing_X8_nextOrder
theorem dX8_findPairing_0 : decode cX8_findPairing 0 = .ok (.iconst 0, 1) := by decide +kernel
theorem dX8_findPairing_1 : decode cX8_findPairing 1 = .ok (.istore_n 2, 1) := by decide +kernel
theorem dX8_findPairing_2 : decode cX8_findPairing 2 = .ok (.iload_n 2, 1) := by decide +kernel
theorem dX8_findPairing_3 : decode cX8_findPairing 3 = .ok (.iload_n 1, 1) := by decide +kernel
theorem dX8_findPairing_4 : decode cX8_findPairing 4 = .ok (.if_icmp .ge 16, 3) := by decide +kernel
theorem dX8_findPairing_7 : decode cX8_findPairing 7 = .ok (.aload_n 0, 1) := by decide +kernel
theorem dX8_findPairing_8 : decode cX8_findPairing 8 = .ok (.getfield 38, 3) := by decide +kernel
theorem dX8_findPairing_11 : decode cX8_findPairing 11 = .ok (.iload_n 2, 1) := by decide +kernel
theorem dX8_findPairing_12 : decode cX8_findPairing 12 = .ok (.iload_n 2, 1) := by decide +kernel
theorem dX8_findPairing_13 : decode cX8_findPairing 13 = .ok (.iastore, 1) := by decide +kernel
theorem dX8_findPairing_14 : decode cX8_findPairing 14 = .ok (.iinc 2 1, 3) := by decide +kernel
theorem dX8_findPairing_17 : decode cX8_findPairing 17 = .ok (.goto (-15), 3) := by decide +kernel
theorem dX8_findPairing_20 : decode cX8_findPairing 20 = .ok (.iconst 1, 1) := by decide +kernel
theorem dX8_findPairing_21 : decode cX8_findPairing 21 = .ok (.istore_n 2, 1) := by decide +kernel
theorem dX8_findPairing_22 : decode cX8_findPairing 22 = .ok (.iload_n 2, 1) := by decide +kernel
theorem dX8_findPairing_23 : decode cX8_findPairing 23 = .ok (.ifCond .eq 20, 3) := by decide +kernel
theorem dX8_findPairing_26 : decode cX8_findPairing 26 = .ok (.aload_n 0, 1) := by decide +kernel
theorem dX8_findPairing_27 : decode cX8_findPairing 27 = .ok (.iload_n 1, 1) := by decide +kernel
theorem dX8_findPairing_28 : decode cX8_findPairing 28 = .ok (.invokevirtual 153, 3) := by decide +kernel
theorem dX8_findPairing_31 : decode cX8_findPairing 31 = .ok (.ifCond .ne 12, 3) := by decide +kernel
theorem dX8_findPairing_34 : decode cX8_findPairing 34 = .ok (.aload_n 0, 1) := by decide +kernel
theorem dX8_findPairing_35 : decode cX8_findPairing 35 = .ok (.iload_n 1, 1) := by decide +kernel
theorem dX8_findPairing_36 : decode cX8_findPairing 36 = .ok (.invokevirtual 156, 3) := by decide +kernel
theorem dX8_findPairing_39 : decode cX8_findPairing 39 = .ok (.istore_n 2, 1) := by decide +kernel
theorem dX8_findPairing_40 : decode cX8_findPairing 40 = .ok (.goto (-18), 3) := by decide +kernel
theorem dX8_findPairing_43 : decode cX8_findPairing 43 = .ok (.iload_n 2, 1) := by decide +kernel
theorem dX8_findPairing_44 : decode cX8_findPairing 44 = .ok (.ireturn, 1) := by decide +kernel
set_option maxRecDepth 20000 in
theorem ggX8_alikeMany_X8_lists : GoodIn wsX8_alikeMany wsX8_lists := goodIn_r _ [8, 9, 13, 14, 15, 16, 17, 18, 19, 20, 21, 22, 23, 24, 25, 26, 27, 28, 29] (by decide +kernel) (by decide +kernel)
set_option maxRecDepth 20000 in
theorem gX8_alikeMany_X8_lists : GoodIn wsX8_alikeMany (wsV RX8 99 RX8 yX8_lists wsX8_lists) := goodIn_app (goodIn_of _ (by decide +kernel)) ggX8_alikeMany_X8_lists
set_option maxRecDepth 20000 in
theorem ggX8_alikeMany_X8_in : GoodIn wsX8_alikeMany wsX8_in := goodIn_r _ [12] (by decide +kernel) (by decide +kernel)
set_option maxRecDepth 20000 in
theorem gX8_alikeMany_X8_in : GoodIn wsX8_alikeMany (va_wsS RX8 43 yX8_in wsX8_in) := goodIn_app (goodIn_of _ (by decide +kernel)) ggX8_alikeMany_X8_in
theorem dX8_alikeMany_0 : decode cX8_alikeMany 0 = .ok (.aload_n 0, 1) := by decide +kernel
theorem dX8_alikeMany_1 : decode cX8_alikeMany 1 = .ok (.iload_n 1, 1) := by decide +kernel
theorem dX8_alikeMany_2 : decode cX8_alikeMany 2 = .ok (.aload_n 0, 1) := by decide +kernel
theorem dX8_alikeMany_3 : decode cX8_alikeMany 3 = .ok (.getfield 23, 3) := by decide +kernel
theorem dX8_alikeMany_6 : decode cX8_alikeMany 6 = .ok (.invokevirtual 99, 3) := by decide +kernel
theorem dX8_alikeMany_9 : decode cX8_alikeMany 9 = .ok (.istore_n 3, 1) := by decide +kernel
theorem dX8_alikeMany_10 : decode cX8_alikeMany 10 = .ok (.aload_n 0, 1) := by decide +kernel
theorem dX8_alikeMany_11 : decode cX8_alikeMany 11 = .ok (.iload_n 2, 1) := by decide +kernel
theorem dX8_alikeMany_12 : decode cX8_alikeMany 12 = .ok (.aload_n 0, 1) := by decide +kernel
theorem dX8_alikeMany_13 : decode cX8_alikeMany 13 = .ok (.getfield 26, 3) := by decide +kernel
theorem dX8_alikeMany_16 : decode cX8_alikeMany 16 = .ok (.invokevirtual 99, 3) := by decide +kernel
theorem dX8_alikeMany_19 : decode cX8_alikeMany 19 = .ok (.istore 4, 2) := by decide +kernel
theorem dX8_alikeMany_21 : decode cX8_alikeMany 21 = .ok (.iload_n 3, 1) := by decide +kernel
theorem dX8_alikeMany_22 : decode cX8_alikeMany 22 = .ok (.iload 4, 2) := by decide +kernel
theorem dX8_alikeMany_24 : decode cX8_alikeMany 24 = .ok (.if_icmp .ne 15, 3) := by decide +kernel
theorem dX8_alikeMany_27 : decode cX8_alikeMany 27 = .ok (.iload_n 3, 1) := by decide +kernel
theorem dX8_alikeMany_28 : decode cX8_alikeMany 28 = .ok (.i2l, 1) := by decide +kernel
theorem dX8_alikeMany_29 : decode cX8_alikeMany 29 = .ok (.lconst 1, 1) := by decide +kernel
theorem dX8_alikeMany_30 : decode cX8_alikeMany 30 = .ok (.ldc2_w 159, 3) := by decide +kernel
theorem dX8_alikeMany_33 : decode cX8_alikeMany 33 = .ok (.invokestatic 43, 3) := by decide +kernel
theorem dX8_alikeMany_36 : decode cX8_alikeMany 36 = .ok (.ifCond .ne 8, 3) := by decide +kernel
theorem dX8_alikeMany_39 : decode cX8_alikeMany 39 = .ok (.bipush (-2), 2) := by decide +kernel
theorem dX8_alikeMany_41 : decode cX8_alikeMany 41 = .ok (.goto 4, 3) := by decide +kernel
theorem dX8_alikeMany_44 : decode cX8_alikeMany 44 = .ok (.iload_n 3, 1) := by decide +kernel
theorem dX8_alikeMany_45 : decode cX8_alikeMany 45 = .ok (.ireturn, 1) := by decide +kernel
set_option maxRecDepth 20000 in
theorem ggX8_alike_X8_isSlot : GoodIn wsX8_alike wsX8_isSlot := goodIn_r _ [4, 5, 6, 7, 3, 8] (by decide +kernel) (by decide +kernel)
set_option maxRecDepth 20000 in
theorem gX8_alike_X8_isSlot : GoodIn wsX8_alike (va_wsS RX8 87 yX8_isSlot wsX8_isSlot) := goodIn_app (goodIn_of _ (by decide +kernel)) ggX8_alike_X8_isSlot
set_option maxRecDepth 20000 in
theorem ggX8_alike_X8_alikeMany : GoodIn wsX8_alike wsX8_alikeMany := goodIn_r _ [12, 13, 14, 15, 16, 17, 18, 3, 19, 20, 6, 7, 8, 34, 35, 36, 37, 38, 39, 40, 41, 42, 43, 44, 45, 46, 47, 48, 49, 50] (by decide +kernel) (by decide +kernel)
set_option maxRecDepth 20000 in
theorem gX8_alike_X8_alikeMany : GoodIn wsX8_alike (wsV RX8 161 RX8 yX8_alikeMany wsX8_alikeMany) := goodIn_app (goodIn_of _ (by decide +kernel)) ggX8_alike_X8_alikeMany
set_option maxRecDepth 20000 in
theorem ggX8_alike_X8_findPairing : GoodIn wsX8_alike wsX8_findPairing := goodIn_r _ [24, 25, 26, 27, 28, 3, 29, 13, 14, 30, 31, 32, 33, 34, 35, 36, 37, 38, 39, 40, 41, 42, 43, 44, 45, 46, 47, 48, 49, 50] (by decide +kernel) (by decide +kernel)
set_option maxRecDepth 20000 in
theorem gX8_alike_X8_findPairing : GoodIn wsX8_alike (wsV RX8 164 RX8 yX8_findPairing wsX8_findPairing) := goodIn_app (goodIn_of _ (by decide +kernel)) ggX8_alike_X8_findPairing
theorem dX8_alike_0 : decode cX8_alike 0 = .ok (.iload_n 1, 1) := by decide +kernel
theorem dX8_alike_1 : decode cX8_alike 1 = .ok (.invokestatic 87, 3) := by decide +kernel
theorem dX8_alike_4 : decode cX8_alike 4 = .ok (.ifCond .eq 10, 3) := by decide +kernel
theorem dX8_alike_7 : decode cX8_alike 7 = .ok (.iload_n 2, 1) := by decide +kernel
theorem dX8_alike_8 : decode cX8_alike 8 = .ok (.invokestatic 87, 3) := by decide +kernel
theorem dX8_alike_11 : decode cX8_alike 11 = .ok (.ifCond .ne 5, 3) := by decide +kernel
theorem dX8_alike_14 : decode cX8_alike 14 = .ok (.iconst (-1), 1) := by decide +kernel
theorem dX8_alike_15 : decode cX8_alike 15 = .ok (.ireturn, 1) := by decide +kernel
theorem dX8_alike_16 : decode cX8_alike 16 = .ok (.aload_n 0, 1) := by decide +kernel
theorem dX8_alike_17 : decode cX8_alike 17 = .ok (.iload_n 1, 1) := by decide +kernel
theorem dX8_alike_18 : decode cX8_alike 18 = .ok (.iload_n 2, 1) := by decide +kernel
theorem dX8_alike_19 : decode cX8_alike 19 = .ok (.invokevirtual 161, 3) := by decide +kernel
theorem dX8_alike_22 : decode cX8_alike 22 = .ok (.istore_n 3, 1) := by decide +kernel
theorem dX8_alike_23 : decode cX8_alike 23 = .ok (.iload_n 3, 1) := by decide +kernel
theorem dX8_alike_24 : decode cX8_alike 24 = .ok (.bipush (-2), 2) := by decide +kernel
theorem dX8_alike_26 : decode cX8_alike 26 = .ok (.if_icmp .ne 8, 3) := by decide +kernel
theorem dX8_alike_29 : decode cX8_alike 29 = .ok (.bipush (-2), 2) := by decide +kernel
theorem dX8_alike_31 : decode cX8_alike 31 = .ok (.goto 16, 3) := by decide +kernel
theorem dX8_alike_34 : decode cX8_alike 34 = .ok (.aload_n 0, 1) := by decide +kernel
theorem dX8_alike_35 : decode cX8_alike 35 = .ok (.iload_n 3, 1) := by decide +kernel
theorem dX8_alike_36 : decode cX8_alike 36 = .ok (.invokevirtual 164, 3) := by decide +kernel
theorem dX8_alike_39 : decode cX8_alike 39 = .ok (.ifCond .eq 7, 3) := by decide +kernel
theorem dX8_alike_42 : decode cX8_alike 42 = .ok (.iconst 1, 1) := by decide +kernel
theorem dX8_alike_43 : decode cX8_alike 43 = .ok (.goto 4, 3) := by decide +kernel
theorem dX8_alike_46 : decode cX8_alike 46 = .ok (.iconst 0, 1) := by decide +kernel
theorem dX8_alike_47 : decode cX8_alike 47 = .ok (.ireturn, 1) := by decide +kernel
set_option maxRecDepth 20000 in
theorem ggX8_partner_X8_isSlot : GoodIn wsX8_partner wsX8_isSlot := goodIn_r _ [6, 7, 8, 9, 5, 10] (by decide +kernel) (by decide +kernel)
set_option maxRecDepth 20000 in
theorem gX8_partner_X8_isSlot : GoodIn wsX8_partner (va_wsS RX8 87 yX8_isSlot wsX8_isSlot) := goodIn_app (goodIn_of _ (by decide +kernel)) ggX8_partner_X8_isSlot
set_option maxRecDepth 20000 in
theorem ggX8_partner_X8_alikeMany : GoodIn wsX8_partner wsX8_alikeMany := goodIn_r _ [14, 15, 1, 16, 17, 18, 19, 5, 20, 21, 8, 9, 10, 34, 35, 36, 37, 38, 39, 40, 41, 42, 43, 44, 45, 46, 47, 48, 49, 50] (by decide +kernel) (by decide +kernel)
set_option maxRecDepth 20000 in
theorem gX8_partner_X8_alikeMany : GoodIn wsX8_partner (wsV RX8 161 RX8 yX8_alikeMany wsX8_alikeMany) := goodIn_app (goodIn_of _ (by decide +kernel)) ggX8_partner_X8_alikeMany
set_option maxRecDepth 20000 in
theorem ggX8_partner_X8_findPairing : GoodIn wsX8_partner wsX8_findPairing := goodIn_r _ [25, 2, 26, 27, 28, 5, 29, 15, 1, 30, 31, 32, 33, 34, 35, 36, 37, 38, 39, 40, 41, 42, 43, 44, 45, 46, 47, 48, 49, 50] (by decide +kernel) (by decide +kernel)
set_option maxRecDepth 20000 in
theorem gX8_partner_X8_findPairing : GoodIn wsX8_partner (wsV RX8 164 RX8 yX8_findPairing wsX8_findPairing) := goodIn_app (goodIn_of _ (by decide +kernel)) ggX8_partner_X8_findPairing
theorem dX8_partner_0 : decode cX8_partner 0 = .ok (.iload_n 1, 1) := by decide +kernel
theorem dX8_partner_1 : decode cX8_partner 1 = .ok (.invokestatic 87, 3) := by decide +kernel
theorem dX8_partner_4 : decode cX8_partner 4 = .ok (.ifCond .eq 14, 3) := by decide +kernel
theorem dX8_partner_7 : decode cX8_partner 7 = .ok (.iload_n 2, 1) := by decide +kernel
theorem dX8_partner_8 : decode cX8_partner 8 = .ok (.invokestatic 87, 3) := by decide +kernel
theorem dX8_partner_11 : decode cX8_partner 11 = .ok (.ifCond .eq 7, 3) := by decide +kernel
theorem dX8_partner_14 : decode cX8_partner 14 = .ok (.iload_n 3, 1) := by decide +kernel
theorem dX8_partner_15 : decode cX8_partner 15 = .ok (.ifCond .ge 5, 3) := by decide +kernel
theorem dX8_partner_18 : decode cX8_partner 18 = .ok (.iconst (-1), 1) := by decide +kernel
theorem dX8_partner_19 : decode cX8_partner 19 = .ok (.ireturn, 1) := by decide +kernel
theorem dX8_partner_20 : decode cX8_partner 20 = .ok (.aload_n 0, 1) := by decide +kernel
theorem dX8_partner_21 : decode cX8_partner 21 = .ok (.iload_n 1, 1) := by decide +kernel
theorem dX8_partner_22 : decode cX8_partner 22 = .ok (.iload_n 2, 1) := by decide +kernel
theorem dX8_partner_23 : decode cX8_partner 23 = .ok (.invokevirtual 161, 3) := by decide +kernel
theorem dX8_partner_26 : decode cX8_partner 26 = .ok (.istore 4, 2) := by decide +kernel
theorem dX8_partner_28 : decode cX8_partner 28 = .ok (.iload 4, 2) := by decide +kernel
theorem dX8_partner_30 : decode cX8_partner 30 = .ok (.bipush (-2), 2) := by decide +kernel
theorem dX8_partner_32 : decode cX8_partner 32 = .ok (.if_icmp .ne 6, 3) := by decide +kernel
theorem dX8_partner_35 : decode cX8_partner 35 = .ok (.bipush (-2), 2) := by decide +kernel
theorem dX8_partner_37 : decode cX8_partner 37 = .ok (.ireturn, 1) := by decide +kernel
theorem dX8_partner_38 : decode cX8_partner 38 = .ok (.iload_n 3, 1) := by decide +kernel
theorem dX8_partner_39 : decode cX8_partner 39 = .ok (.iload 4, 2) := by decide +kernel
theorem dX8_partner_41 : decode cX8_partner 41 = .ok (.if_icmp .ge 26, 3) := by decide +kernel
theorem dX8_partner_44 : decode cX8_partner 44 = .ok (.aload_n 0, 1) := by decide +kernel
theorem dX8_partner_45 : decode cX8_partner 45 = .ok (.iload 4, 2) := by decide +kernel
theorem dX8_partner_47 : decode cX8_partner 47 = .ok (.invokevirtual 164, 3) := by decide +kernel
theorem dX8_partner_50 : decode cX8_partner 50 = .ok (.ifCond .eq 17, 3) := by decide +kernel
theorem dX8_partner_53 : decode cX8_partner 53 = .ok (.aload_n 0, 1) := by decide +kernel
theorem dX8_partner_54 : decode cX8_partner 54 = .ok (.getfield 26, 3) := by decide +kernel
theorem dX8_partner_57 : decode cX8_partner 57 = .ok (.aload_n 0, 1) := by decide +kernel
theorem dX8_partner_58 : decode cX8_partner 58 = .ok (.getfield 38, 3) := by decide +kernel
theorem dX8_partner_61 : decode cX8_partner 61 = .ok (.iload_n 3, 1) := by decide +kernel
theorem dX8_partner_62 : decode cX8_partner 62 = .ok (.iaload, 1) := by decide +kernel
theorem dX8_partner_63 : decode cX8_partner 63 = .ok (.iaload, 1) := by decide +kernel
theorem dX8_partner_64 : decode cX8_partner 64 = .ok (.goto 5, 3) := by decide +kernel
theorem dX8_partner_67 : decode cX8_partner 67 = .ok (.bipush (-4), 2) := by decide +kernel
theorem dX8_partner_69 : decode cX8_partner 69 = .ok (.ireturn, 1) := by decide +kernel
theorem dX8_partSums_0 : decode cX8_partSums 0 = .ok (.iconst 0, 1) := by decide +kernel
theorem dX8_partSums_1 : decode cX8_partSums 1 = .ok (.istore 4, 2) := by decide +kernel
theorem dX8_partSums_3 : decode cX8_partSums 3 = .ok (.iload 4, 2) := by decide +kernel
theorem dX8_partSums_5 : decode cX8_partSums 5 = .ok (.bipush 81, 2) := by decide +kernel
theorem dX8_partSums_7 : decode cX8_partSums 7 = .ok (.if_icmp .ge 17, 3) := by decide +kernel
theorem dX8_partSums_10 : decode cX8_partSums 10 = .ok (.aload_n 0, 1) := by decide +kernel
theorem dX8_partSums_11 : decode cX8_partSums 11 = .ok (.getfield 29, 3) := by decide +kernel
theorem dX8_partSums_14 : decode cX8_partSums 14 = .ok (.iload 4, 2) := by decide +kernel
theorem dX8_partSums_16 : decode cX8_partSums 16 = .ok (.iconst 0, 1) := by decide +kernel
theorem dX8_partSums_17 : decode cX8_partSums 17 = .ok (.bastore, 1) := by decide +kernel
theorem dX8_partSums_18 : decode cX8_partSums 18 = .ok (.iinc 4 1, 3) := by decide +kernel
theorem dX8_partSums_21 : decode cX8_partSums 21 = .ok (.goto (-18), 3) := by decide +kernel
theorem dX8_partSums_24 : decode cX8_partSums 24 = .ok (.iconst 0, 1) := by decide +kernel
theorem dX8_partSums_25 : decode cX8_partSums 25 = .ok (.istore 4, 2) := by decide +kernel
theorem dX8_partSums_27 : decode cX8_partSums 27 = .ok (.iconst 0, 1) := by decide +kernel
theorem dX8_partSums_28 : decode cX8_partSums 28 = .ok (.istore 5, 2) := by decide +kernel
theorem dX8_partSums_30 : decode cX8_partSums 30 = .ok (.iload 5, 2) := by decide +kernel
theorem dX8_partSums_32 : decode cX8_partSums 32 = .ok (.iload_n 2, 1) := by decide +kernel
theorem dX8_partSums_33 : decode cX8_partSums 33 = .ok (.if_icmp .ge 88, 3) := by decide +kernel
theorem dX8_partSums_36 : decode cX8_partSums 36 = .ok (.iconst 0, 1) := by decide +kernel
theorem dX8_partSums_37 : decode cX8_partSums 37 = .ok (.istore 6, 2) := by decide +kernel
theorem dX8_partSums_39 : decode cX8_partSums 39 = .ok (.iload 6, 2) := by decide +kernel
theorem dX8_partSums_41 : decode cX8_partSums 41 = .ok (.iload_n 3, 1) := by decide +kernel
theorem dX8_partSums_42 : decode cX8_partSums 42 = .ok (.if_icmp .ge 73, 3) := by decide +kernel
theorem dX8_partSums_45 : decode cX8_partSums 45 = .ok (.iload_n 1, 1) := by decide +kernel
theorem dX8_partSums_46 : decode cX8_partSums 46 = .ok (.iload 5, 2) := by decide +kernel
theorem dX8_partSums_48 : decode cX8_partSums 48 = .ok (.ishr, 1) := by decide +kernel
theorem dX8_partSums_49 : decode cX8_partSums 49 = .ok (.iconst 1, 1) := by decide +kernel
theorem dX8_partSums_50 : decode cX8_partSums 50 = .ok (.iand, 1) := by decide +kernel
theorem dX8_partSums_51 : decode cX8_partSums 51 = .ok (.iconst 1, 1) := by decide +kernel
theorem dX8_partSums_52 : decode cX8_partSums 52 = .ok (.if_icmp .ne 63, 3) := by decide +kernel
theorem dX8_partSums_55 : decode cX8_partSums 55 = .ok (.iload 4, 2) := by decide +kernel
theorem dX8_partSums_57 : decode cX8_partSums 57 = .ok (.aload_n 0, 1) := by decide +kernel
theorem dX8_partSums_58 : decode cX8_partSums 58 = .ok (.getfield 29, 3) := by decide +kernel
theorem dX8_partSums_61 : decode cX8_partSums 61 = .ok (.aload_n 0, 1) := by decide +kernel
theorem dX8_partSums_62 : decode cX8_partSums 62 = .ok (.getfield 23, 3) := by decide +kernel
theorem dX8_partSums_65 : decode cX8_partSums 65 = .ok (.iload 5, 2) := by decide +kernel
theorem dX8_partSums_67 : decode cX8_partSums 67 = .ok (.iaload, 1) := by decide +kernel
theorem dX8_partSums_68 : decode cX8_partSums 68 = .ok (.aload_n 0, 1) := by decide +kernel
theorem dX8_partSums_69 : decode cX8_partSums 69 = .ok (.getfield 26, 3) := by decide +kernel
theorem dX8_partSums_72 : decode cX8_partSums 72 = .ok (.iload 6, 2) := by decide +kernel
theorem dX8_partSums_74 : decode cX8_partSums 74 = .ok (.iaload, 1) := by decide +kernel
theorem dX8_partSums_75 : decode cX8_partSums 75 = .ok (.iadd, 1) := by decide +kernel
theorem dX8_partSums_76 : decode cX8_partSums 76 = .ok (.baload, 1) := by decide +kernel
theorem dX8_partSums_77 : decode cX8_partSums 77 = .ok (.ifCond .eq 7, 3) := by decide +kernel
theorem dX8_partSums_80 : decode cX8_partSums 80 = .ok (.iconst 0, 1) := by decide +kernel
theorem dX8_partSums_81 : decode cX8_partSums 81 = .ok (.goto 4, 3) := by decide +kernel
theorem dX8_partSums_84 : decode cX8_partSums 84 = .ok (.iconst 1, 1) := by decide +kernel
theorem dX8_partSums_85 : decode cX8_partSums 85 = .ok (.iadd, 1) := by decide +kernel
theorem dX8_partSums_86 : decode cX8_partSums 86 = .ok (.istore 4, 2) := by decide +kernel
theorem dX8_partSums_88 : decode cX8_partSums 88 = .ok (.aload_n 0, 1) := by decide +kernel
theorem dX8_partSums_89 : decode cX8_partSums 89 = .ok (.getfield 29, 3) := by decide +kernel
theorem dX8_partSums_92 : decode cX8_partSums 92 = .ok (.aload_n 0, 1) := by decide +kernel
theorem dX8_partSums_93 : decode cX8_partSums 93 = .ok (.getfield 23, 3) := by decide +kernel
theorem dX8_partSums_96 : decode cX8_partSums 96 = .ok (.iload 5, 2) := by decide +kernel
theorem dX8_partSums_98 : decode cX8_partSums 98 = .ok (.iaload, 1) := by decide +kernel
theorem dX8_partSums_99 : decode cX8_partSums 99 = .ok (.aload_n 0, 1) := by decide +kernel
theorem dX8_partSums_100 : decode cX8_partSums 100 = .ok (.getfield 26, 3) := by decide +kernel
theorem dX8_partSums_103 : decode cX8_partSums 103 = .ok (.iload 6, 2) := by decide +kernel
theorem dX8_partSums_105 : decode cX8_partSums 105 = .ok (.iaload, 1) := by decide +kernel
theorem dX8_partSums_106 : decode cX8_partSums 106 = .ok (.iadd, 1) := by decide +kernel
theorem dX8_partSums_107 : decode cX8_partSums 107 = .ok (.iconst 1, 1) := by decide +kernel
theorem dX8_partSums_108 : decode cX8_partSums 108 = .ok (.bastore, 1) := by decide +kernel
theorem dX8_partSums_109 : decode cX8_partSums 109 = .ok (.iinc 6 1, 3) := by decide +kernel
theorem dX8_partSums_112 : decode cX8_partSums 112 = .ok (.goto (-73), 3) := by decide +kernel
theorem dX8_partSums_115 : decode cX8_partSums 115 = .ok (.iinc 5 1, 3) := by decide +kernel
theorem dX8_partSums_118 : decode cX8_partSums 118 = .ok (.goto (-88), 3) := by decide +kernel
theorem dX8_partSums_121 : decode cX8_partSums 121 = .ok (.iload 4, 2) := by decide +kernel
theorem dX8_partSums_123 : decode cX8_partSums 123 = .ok (.ireturn, 1) := by decide +kernel
theorem dX8_bits_0 : decode cX8_bits 0 = .ok (.iconst 0, 1) := by decide +kernel
theorem dX8_bits_1 : decode cX8_bits 1 = .ok (.istore_n 1, 1) := by decide +kernel
theorem dX8_bits_2 : decode cX8_bits 2 = .ok (.iconst 0, 1) := by decide +kernel
theorem dX8_bits_3 : decode cX8_bits 3 = .ok (.istore_n 2, 1) := by decide +kernel
theorem dX8_bits_4 : decode cX8_bits 4 = .ok (.iload_n 2, 1) := by decide +kernel
theorem dX8_bits_5 : decode cX8_bits 5 = .ok (.bipush 12, 2) := by decide +kernel
theorem dX8_bits_7 : decode cX8_bits 7 = .ok (.if_icmp .ge 17, 3) := by decide +kernel
theorem dX8_bits_10 : decode cX8_bits 10 = .ok (.iload_n 1, 1) := by decide +kernel
theorem dX8_bits_11 : decode cX8_bits 11 = .ok (.iload_n 0, 1) := by decide +kernel
theorem dX8_bits_12 : decode cX8_bits 12 = .ok (.iload_n 2, 1) := by decide +kernel
theorem dX8_bits_13 : decode cX8_bits 13 = .ok (.ishr, 1) := by decide +kernel
theorem dX8_bits_14 : decode cX8_bits 14 = .ok (.iconst 1, 1) := by decide +kernel
theorem dX8_bits_15 : decode cX8_bits 15 = .ok (.iand, 1) := by decide +kernel
theorem dX8_bits_16 : decode cX8_bits 16 = .ok (.iadd, 1) := by decide +kernel
theorem dX8_bits_17 : decode cX8_bits 17 = .ok (.istore_n 1, 1) := by decide +kernel
theorem dX8_bits_18 : decode cX8_bits 18 = .ok (.iinc 2 1, 3) := by decide +kernel
theorem dX8_bits_21 : decode cX8_bits 21 = .ok (.goto (-17), 3) := by decide +kernel
theorem dX8_bits_24 : decode cX8_bits 24 = .ok (.iload_n 1, 1) := by decide +kernel
theorem dX8_bits_25 : decode cX8_bits 25 = .ok (.ireturn, 1) := by decide +kernel
set_option maxRecDepth 20000 in
theorem ggX8_isLess_X8_bits : GoodIn wsX8_isLess wsX8_bits := goodIn_r _ [6] (by decide +kernel) (by decide +kernel)
set_option maxRecDepth 20000 in
theorem gX8_isLess_X8_bits : GoodIn wsX8_isLess (va_wsS RX8 170 yX8_bits wsX8_bits) := goodIn_app (goodIn_of _ (by decide +kernel)) ggX8_isLess_X8_bits
theorem dX8_isLess_0 : decode cX8_isLess 0 = .ok (.iload_n 2, 1) := by decide +kernel
theorem dX8_isLess_1 : decode cX8_isLess 1 = .ok (.aload_n 0, 1) := by decide +kernel
theorem dX8_isLess_2 : decode cX8_isLess 2 = .ok (.getfield 167, 3) := by decide +kernel
theorem dX8_isLess_5 : decode cX8_isLess 5 = .ok (.invokestatic 170, 3) := by decide +kernel
theorem dX8_isLess_8 : decode cX8_isLess 8 = .ok (.imul, 1) := by decide +kernel
theorem dX8_isLess_9 : decode cX8_isLess 9 = .ok (.istore_n 3, 1) := by decide +kernel
theorem dX8_isLess_10 : decode cX8_isLess 10 = .ok (.aload_n 0, 1) := by decide +kernel
theorem dX8_isLess_11 : decode cX8_isLess 11 = .ok (.getfield 173, 3) := by decide +kernel
theorem dX8_isLess_14 : decode cX8_isLess 14 = .ok (.iload_n 1, 1) := by decide +kernel
theorem dX8_isLess_15 : decode cX8_isLess 15 = .ok (.invokestatic 170, 3) := by decide +kernel
theorem dX8_isLess_18 : decode cX8_isLess 18 = .ok (.imul, 1) := by decide +kernel
theorem dX8_isLess_19 : decode cX8_isLess 19 = .ok (.istore 4, 2) := by decide +kernel
theorem dX8_isLess_21 : decode cX8_isLess 21 = .ok (.iload_n 3, 1) := by decide +kernel
theorem dX8_isLess_22 : decode cX8_isLess 22 = .ok (.iload 4, 2) := by decide +kernel
theorem dX8_isLess_24 : decode cX8_isLess 24 = .ok (.if_icmp .ne 17, 3) := by decide +kernel
theorem dX8_isLess_27 : decode cX8_isLess 27 = .ok (.iload_n 1, 1) := by decide +kernel
theorem dX8_isLess_28 : decode cX8_isLess 28 = .ok (.invokestatic 170, 3) := by decide +kernel
theorem dX8_isLess_31 : decode cX8_isLess 31 = .ok (.aload_n 0, 1) := by decide +kernel
theorem dX8_isLess_32 : decode cX8_isLess 32 = .ok (.getfield 167, 3) := by decide +kernel
theorem dX8_isLess_35 : decode cX8_isLess 35 = .ok (.invokestatic 170, 3) := by decide +kernel
theorem dX8_isLess_38 : decode cX8_isLess 38 = .ok (.if_icmp .eq 43, 3) := by decide +kernel
theorem dX8_isLess_41 : decode cX8_isLess 41 = .ok (.iload_n 3, 1) := by decide +kernel
theorem dX8_isLess_42 : decode cX8_isLess 42 = .ok (.iload 4, 2) := by decide +kernel
theorem dX8_isLess_44 : decode cX8_isLess 44 = .ok (.if_icmp .eq 17, 3) := by decide +kernel
theorem dX8_isLess_47 : decode cX8_isLess 47 = .ok (.iload_n 3, 1) := by decide +kernel
theorem dX8_isLess_48 : decode cX8_isLess 48 = .ok (.iload 4, 2) := by decide +kernel
theorem dX8_isLess_50 : decode cX8_isLess 50 = .ok (.if_icmp .ge 7, 3) := by decide +kernel
theorem dX8_isLess_53 : decode cX8_isLess 53 = .ok (.iconst 1, 1) := by decide +kernel
theorem dX8_isLess_54 : decode cX8_isLess 54 = .ok (.goto 26, 3) := by decide +kernel
theorem dX8_isLess_57 : decode cX8_isLess 57 = .ok (.iconst 0, 1) := by decide +kernel
theorem dX8_isLess_58 : decode cX8_isLess 58 = .ok (.goto 22, 3) := by decide +kernel
theorem dX8_isLess_61 : decode cX8_isLess 61 = .ok (.iload_n 1, 1) := by decide +kernel
theorem dX8_isLess_62 : decode cX8_isLess 62 = .ok (.invokestatic 170, 3) := by decide +kernel
theorem dX8_isLess_65 : decode cX8_isLess 65 = .ok (.aload_n 0, 1) := by decide +kernel
theorem dX8_isLess_66 : decode cX8_isLess 66 = .ok (.getfield 167, 3) := by decide +kernel
theorem dX8_isLess_69 : decode cX8_isLess 69 = .ok (.invokestatic 170, 3) := by decide +kernel
theorem dX8_isLess_72 : decode cX8_isLess 72 = .ok (.if_icmp .le 7, 3) := by decide +kernel
theorem dX8_isLess_75 : decode cX8_isLess 75 = .ok (.iconst 1, 1) := by decide +kernel
theorem dX8_isLess_76 : decode cX8_isLess 76 = .ok (.goto 4, 3) := by decide +kernel
theorem dX8_isLess_79 : decode cX8_isLess 79 = .ok (.iconst 0, 1) := by decide +kernel
theorem dX8_isLess_80 : decode cX8_isLess 80 = .ok (.ireturn, 1) := by decide +kernel
theorem dX8_isLess_81 : decode cX8_isLess 81 = .ok (.iload_n 1, 1) := by decide +kernel
theorem dX8_isLess_82 : decode cX8_isLess 82 = .ok (.aload_n 0, 1) := by decide +kernel
theorem dX8_isLess_83 : decode cX8_isLess 83 = .ok (.getfield 167, 3) := by decide +kernel
theorem dX8_isLess_86 : decode cX8_isLess 86 = .ok (.ixor, 1) := by decide +kernel
theorem dX8_isLess_87 : decode cX8_isLess 87 = .ok (.istore 5, 2) := by decide +kernel
theorem dX8_isLess_89 : decode cX8_isLess 89 = .ok (.iconst 0, 1) := by decide +kernel
theorem dX8_isLess_90 : decode cX8_isLess 90 = .ok (.istore 6, 2) := by decide +kernel
theorem dX8_isLess_92 : decode cX8_isLess 92 = .ok (.iload 5, 2) := by decide +kernel
theorem dX8_isLess_94 : decode cX8_isLess 94 = .ok (.iload 6, 2) := by decide +kernel
theorem dX8_isLess_96 : decode cX8_isLess 96 = .ok (.ishr, 1) := by decide +kernel
theorem dX8_isLess_97 : decode cX8_isLess 97 = .ok (.iconst 1, 1) := by decide +kernel
theorem dX8_isLess_98 : decode cX8_isLess 98 = .ok (.iand, 1) := by decide +kernel
theorem dX8_isLess_99 : decode cX8_isLess 99 = .ok (.ifCond .ne 9, 3) := by decide +kernel
theorem dX8_isLess_102 : decode cX8_isLess 102 = .ok (.iinc 6 1, 3) := by decide +kernel
theorem dX8_isLess_105 : decode cX8_isLess 105 = .ok (.goto (-13), 3) := by decide +kernel
theorem dX8_isLess_108 : decode cX8_isLess 108 = .ok (.iload_n 1, 1) := by decide +kernel
theorem dX8_isLess_109 : decode cX8_isLess 109 = .ok (.iload 6, 2) := by decide +kernel
theorem dX8_isLess_111 : decode cX8_isLess 111 = .ok (.ishr, 1) := by decide +kernel
theorem dX8_isLess_112 : decode cX8_isLess 112 = .ok (.iconst 1, 1) := by decide +kernel
theorem dX8_isLess_113 : decode cX8_isLess 113 = .ok (.iand, 1) := by decide +kernel
theorem dX8_isLess_114 : decode cX8_isLess 114 = .ok (.iconst 1, 1) := by decide +kernel
theorem dX8_isLess_115 : decode cX8_isLess 115 = .ok (.if_icmp .ne 7, 3) := by decide +kernel
theorem dX8_isLess_118 : decode cX8_isLess 118 = .ok (.iconst 1, 1) := by decide +kernel
theorem dX8_isLess_119 : decode cX8_isLess 119 = .ok (.goto 4, 3) := by decide +kernel
theorem dX8_isLess_122 : decode cX8_isLess 122 = .ok (.iconst 0, 1) := by decide +kernel
theorem dX8_isLess_123 : decode cX8_isLess 123 = .ok (.ireturn, 1) := by decide +kernel
set_option maxRecDepth 20000 in
theorem ggX8_findLeast_X8_lists : GoodIn wsX8_findLeast wsX8_lists := goodIn_r _ [9, 10, 23, 24, 25, 26, 27, 28, 29, 30, 31, 32, 33, 34, 35, 36, 37, 38, 39] (by decide +kernel) (by decide +kernel)
set_option maxRecDepth 20000 in
theorem gX8_findLeast_X8_lists : GoodIn wsX8_findLeast (wsV RX8 99 RX8 yX8_lists wsX8_lists) := goodIn_app (goodIn_of _ (by decide +kernel)) ggX8_findLeast_X8_lists
set_option maxRecDepth 20000 in
theorem ggX8_findLeast_X8_partSums : GoodIn wsX8_findLeast wsX8_partSums := goodIn_r _ [14, 15, 1, 2, 23, 24, 25, 26, 27, 28, 29, 30, 31, 32, 33, 34, 35, 36, 37, 38, 39] (by decide +kernel) (by decide +kernel)
set_option maxRecDepth 20000 in
theorem gX8_findLeast_X8_partSums : GoodIn wsX8_findLeast (wsV RX8 176 RX8 yX8_partSums wsX8_partSums) := goodIn_app (goodIn_of _ (by decide +kernel)) ggX8_findLeast_X8_partSums
set_option maxRecDepth 20000 in
theorem ggX8_findLeast_X8_isLess : GoodIn wsX8_findLeast wsX8_isLess := goodIn_r _ [19, 3, 4, 20, 21, 8, 22, 23, 24, 25, 26, 27, 28, 29, 30, 31, 32, 33, 34, 35, 36, 37, 38, 39] (by decide +kernel) (by decide +kernel)
set_option maxRecDepth 20000 in
theorem gX8_findLeast_X8_isLess : GoodIn wsX8_findLeast (wsV RX8 179 RX8 yX8_isLess wsX8_isLess) := goodIn_app (goodIn_of _ (by decide +kernel)) ggX8_findLeast_X8_isLess
theorem dX8_findLeast_0 : decode cX8_findLeast 0 = .ok (.aload_n 0, 1) := by decide +kernel
theorem dX8_findLeast_1 : decode cX8_findLeast 1 = .ok (.iload_n 1, 1) := by decide +kernel
theorem dX8_findLeast_2 : decode cX8_findLeast 2 = .ok (.aload_n 0, 1) := by decide +kernel
theorem dX8_findLeast_3 : decode cX8_findLeast 3 = .ok (.getfield 23, 3) := by decide +kernel
theorem dX8_findLeast_6 : decode cX8_findLeast 6 = .ok (.invokevirtual 99, 3) := by decide +kernel
theorem dX8_findLeast_9 : decode cX8_findLeast 9 = .ok (.istore_n 3, 1) := by decide +kernel
theorem dX8_findLeast_10 : decode cX8_findLeast 10 = .ok (.aload_n 0, 1) := by decide +kernel
theorem dX8_findLeast_11 : decode cX8_findLeast 11 = .ok (.iload_n 2, 1) := by decide +kernel
theorem dX8_findLeast_12 : decode cX8_findLeast 12 = .ok (.aload_n 0, 1) := by decide +kernel
theorem dX8_findLeast_13 : decode cX8_findLeast 13 = .ok (.getfield 26, 3) := by decide +kernel
theorem dX8_findLeast_16 : decode cX8_findLeast 16 = .ok (.invokevirtual 99, 3) := by decide +kernel
theorem dX8_findLeast_19 : decode cX8_findLeast 19 = .ok (.istore 4, 2) := by decide +kernel
theorem dX8_findLeast_21 : decode cX8_findLeast 21 = .ok (.iload_n 3, 1) := by decide +kernel
theorem dX8_findLeast_22 : decode cX8_findLeast 22 = .ok (.ifCond .eq 14, 3) := by decide +kernel
theorem dX8_findLeast_25 : decode cX8_findLeast 25 = .ok (.iload 4, 2) := by decide +kernel
theorem dX8_findLeast_27 : decode cX8_findLeast 27 = .ok (.ifCond .eq 9, 3) := by decide +kernel
theorem dX8_findLeast_30 : decode cX8_findLeast 30 = .ok (.iload_n 3, 1) := by decide +kernel
theorem dX8_findLeast_31 : decode cX8_findLeast 31 = .ok (.bipush 12, 2) := by decide +kernel
theorem dX8_findLeast_33 : decode cX8_findLeast 33 = .ok (.if_icmp .le 5, 3) := by decide +kernel
theorem dX8_findLeast_36 : decode cX8_findLeast 36 = .ok (.iconst 0, 1) := by decide +kernel
theorem dX8_findLeast_37 : decode cX8_findLeast 37 = .ok (.ireturn, 1) := by decide +kernel
theorem dX8_findLeast_38 : decode cX8_findLeast 38 = .ok (.aload_n 0, 1) := by decide +kernel
theorem dX8_findLeast_39 : decode cX8_findLeast 39 = .ok (.iconst 0, 1) := by decide +kernel
theorem dX8_findLeast_40 : decode cX8_findLeast 40 = .ok (.putfield 167, 3) := by decide +kernel
theorem dX8_findLeast_43 : decode cX8_findLeast 43 = .ok (.iconst 1, 1) := by decide +kernel
theorem dX8_findLeast_44 : decode cX8_findLeast 44 = .ok (.istore 5, 2) := by decide +kernel
theorem dX8_findLeast_46 : decode cX8_findLeast 46 = .ok (.iload 5, 2) := by decide +kernel
theorem dX8_findLeast_48 : decode cX8_findLeast 48 = .ok (.iconst 1, 1) := by decide +kernel
theorem dX8_findLeast_49 : decode cX8_findLeast 49 = .ok (.iload_n 3, 1) := by decide +kernel
theorem dX8_findLeast_50 : decode cX8_findLeast 50 = .ok (.ishl, 1) := by decide +kernel
theorem dX8_findLeast_51 : decode cX8_findLeast 51 = .ok (.if_icmp .ge 50, 3) := by decide +kernel
theorem dX8_findLeast_54 : decode cX8_findLeast 54 = .ok (.aload_n 0, 1) := by decide +kernel
theorem dX8_findLeast_55 : decode cX8_findLeast 55 = .ok (.iload 5, 2) := by decide +kernel
theorem dX8_findLeast_57 : decode cX8_findLeast 57 = .ok (.iload_n 3, 1) := by decide +kernel
theorem dX8_findLeast_58 : decode cX8_findLeast 58 = .ok (.iload 4, 2) := by decide +kernel
theorem dX8_findLeast_60 : decode cX8_findLeast 60 = .ok (.invokevirtual 176, 3) := by decide +kernel
theorem dX8_findLeast_63 : decode cX8_findLeast 63 = .ok (.istore 6, 2) := by decide +kernel
theorem dX8_findLeast_65 : decode cX8_findLeast 65 = .ok (.aload_n 0, 1) := by decide +kernel
theorem dX8_findLeast_66 : decode cX8_findLeast 66 = .ok (.getfield 167, 3) := by decide +kernel
theorem dX8_findLeast_69 : decode cX8_findLeast 69 = .ok (.ifCond .eq 14, 3) := by decide +kernel
theorem dX8_findLeast_72 : decode cX8_findLeast 72 = .ok (.aload_n 0, 1) := by decide +kernel
theorem dX8_findLeast_73 : decode cX8_findLeast 73 = .ok (.iload 5, 2) := by decide +kernel
theorem dX8_findLeast_75 : decode cX8_findLeast 75 = .ok (.iload 6, 2) := by decide +kernel
theorem dX8_findLeast_77 : decode cX8_findLeast 77 = .ok (.invokevirtual 179, 3) := by decide +kernel
theorem dX8_findLeast_80 : decode cX8_findLeast 80 = .ok (.ifCond .eq 15, 3) := by decide +kernel
theorem dX8_findLeast_83 : decode cX8_findLeast 83 = .ok (.aload_n 0, 1) := by decide +kernel
theorem dX8_findLeast_84 : decode cX8_findLeast 84 = .ok (.iload 5, 2) := by decide +kernel
theorem dX8_findLeast_86 : decode cX8_findLeast 86 = .ok (.putfield 167, 3) := by decide +kernel
theorem dX8_findLeast_89 : decode cX8_findLeast 89 = .ok (.aload_n 0, 1) := by decide +kernel
theorem dX8_findLeast_90 : decode cX8_findLeast 90 = .ok (.iload 6, 2) := by decide +kernel
theorem dX8_findLeast_92 : decode cX8_findLeast 92 = .ok (.putfield 173, 3) := by decide +kernel
theorem dX8_findLeast_95 : decode cX8_findLeast 95 = .ok (.iinc 5 1, 3) := by decide +kernel
theorem dX8_findLeast_98 : decode cX8_findLeast 98 = .ok (.goto (-52), 3) := by decide +kernel
theorem dX8_findLeast_101 : decode cX8_findLeast 101 = .ok (.iconst 1, 1) := by decide +kernel
theorem dX8_findLeast_102 : decode cX8_findLeast 102 = .ok (.ireturn, 1) := by decide +kernel
set_option maxRecDepth 20000 in
theorem ggX8_swell_X8_isSlot : GoodIn wsX8_swell wsX8_isSlot := goodIn_r _ [7, 8, 9, 10, 6, 11] (by decide +kernel) (by decide +kernel)
set_option maxRecDepth 20000 in
theorem gX8_swell_X8_isSlot : GoodIn wsX8_swell (va_wsS RX8 87 yX8_isSlot wsX8_isSlot) := goodIn_app (goodIn_of _ (by decide +kernel)) ggX8_swell_X8_isSlot
set_option maxRecDepth 20000 in
theorem ggX8_swell_X8_in : GoodIn wsX8_swell wsX8_in := goodIn_r _ [11] (by decide +kernel) (by decide +kernel)
set_option maxRecDepth 20000 in
theorem gX8_swell_X8_in : GoodIn wsX8_swell (va_wsS RX8 43 yX8_in wsX8_in) := goodIn_app (goodIn_of _ (by decide +kernel)) ggX8_swell_X8_in
set_option maxRecDepth 20000 in
theorem ggX8_swell_X8_findLeast : GoodIn wsX8_swell wsX8_findLeast := goodIn_r _ [15, 16, 17, 3, 2, 18, 19, 20, 6, 21, 22, 23, 24, 25, 26, 27, 28, 29, 30, 31, 32, 33, 34, 38, 39, 40, 41, 42, 43, 44, 45, 46, 47, 48, 49, 50, 51, 52, 53, 54] (by decide +kernel) (by decide +kernel)
set_option maxRecDepth 20000 in
theorem gX8_swell_X8_findLeast : GoodIn wsX8_swell (wsV RX8 183 RX8 yX8_findLeast wsX8_findLeast) := goodIn_app (goodIn_of _ (by decide +kernel)) ggX8_swell_X8_findLeast
set_option maxRecDepth 20000 in
theorem ggX8_swell_X8_bits : GoodIn wsX8_swell wsX8_bits := goodIn_r _ [34] (by decide +kernel) (by decide +kernel)
set_option maxRecDepth 20000 in
theorem gX8_swell_X8_bits : GoodIn wsX8_swell (va_wsS RX8 170 yX8_bits wsX8_bits) := goodIn_app (goodIn_of _ (by decide +kernel)) ggX8_swell_X8_bits
set_option maxRecDepth 20000 in
theorem ggX8_swell_X8_common : GoodIn wsX8_swell wsX8_common := goodIn_r _ [37] (by decide +kernel) (by decide +kernel)
set_option maxRecDepth 20000 in
theorem gX8_swell_X8_common : GoodIn wsX8_swell (va_wsS RX8 131 yX8_common wsX8_common) := goodIn_app (goodIn_of _ (by decide +kernel)) ggX8_swell_X8_common
theorem dX8_swell_0 : decode cX8_swell 0 = .ok (.iload_n 1, 1) := by decide +kernel
theorem dX8_swell_1 : decode cX8_swell 1 = .ok (.invokestatic 87, 3) := by decide +kernel
theorem dX8_swell_4 : decode cX8_swell 4 = .ok (.ifCond .eq 22, 3) := by decide +kernel
theorem dX8_swell_7 : decode cX8_swell 7 = .ok (.iload_n 2, 1) := by decide +kernel
theorem dX8_swell_8 : decode cX8_swell 8 = .ok (.invokestatic 87, 3) := by decide +kernel
theorem dX8_swell_11 : decode cX8_swell 11 = .ok (.ifCond .eq 15, 3) := by decide +kernel
theorem dX8_swell_14 : decode cX8_swell 14 = .ok (.iload_n 3, 1) := by decide +kernel
theorem dX8_swell_15 : decode cX8_swell 15 = .ok (.i2l, 1) := by decide +kernel
theorem dX8_swell_16 : decode cX8_swell 16 = .ok (.lconst 0, 1) := by decide +kernel
theorem dX8_swell_17 : decode cX8_swell 17 = .ok (.ldc2_w 137, 3) := by decide +kernel
theorem dX8_swell_20 : decode cX8_swell 20 = .ok (.invokestatic 43, 3) := by decide +kernel
theorem dX8_swell_23 : decode cX8_swell 23 = .ok (.ifCond .ne 5, 3) := by decide +kernel
theorem dX8_swell_26 : decode cX8_swell 26 = .ok (.iconst (-1), 1) := by decide +kernel
theorem dX8_swell_27 : decode cX8_swell 27 = .ok (.ireturn, 1) := by decide +kernel
theorem dX8_swell_28 : decode cX8_swell 28 = .ok (.aload_n 0, 1) := by decide +kernel
theorem dX8_swell_29 : decode cX8_swell 29 = .ok (.iload_n 1, 1) := by decide +kernel
theorem dX8_swell_30 : decode cX8_swell 30 = .ok (.iload_n 2, 1) := by decide +kernel
theorem dX8_swell_31 : decode cX8_swell 31 = .ok (.invokevirtual 183, 3) := by decide +kernel
theorem dX8_swell_34 : decode cX8_swell 34 = .ok (.ifCond .ne 6, 3) := by decide +kernel
theorem dX8_swell_37 : decode cX8_swell 37 = .ok (.bipush (-2), 2) := by decide +kernel
theorem dX8_swell_39 : decode cX8_swell 39 = .ok (.ireturn, 1) := by decide +kernel
theorem dX8_swell_40 : decode cX8_swell 40 = .ok (.aload_n 0, 1) := by decide +kernel
theorem dX8_swell_41 : decode cX8_swell 41 = .ok (.getfield 173, 3) := by decide +kernel
theorem dX8_swell_44 : decode cX8_swell 44 = .ok (.aload_n 0, 1) := by decide +kernel
theorem dX8_swell_45 : decode cX8_swell 45 = .ok (.getfield 167, 3) := by decide +kernel
theorem dX8_swell_48 : decode cX8_swell 48 = .ok (.invokestatic 170, 3) := by decide +kernel
theorem dX8_swell_51 : decode cX8_swell 51 = .ok (.invokestatic 131, 3) := by decide +kernel
theorem dX8_swell_54 : decode cX8_swell 54 = .ok (.istore 4, 2) := by decide +kernel
theorem dX8_swell_56 : decode cX8_swell 56 = .ok (.iload_n 3, 1) := by decide +kernel
theorem dX8_swell_57 : decode cX8_swell 57 = .ok (.ifCond .ne 13, 3) := by decide +kernel
theorem dX8_swell_60 : decode cX8_swell 60 = .ok (.aload_n 0, 1) := by decide +kernel
theorem dX8_swell_61 : decode cX8_swell 61 = .ok (.getfield 173, 3) := by decide +kernel
theorem dX8_swell_64 : decode cX8_swell 64 = .ok (.iload 4, 2) := by decide +kernel
theorem dX8_swell_66 : decode cX8_swell 66 = .ok (.idiv, 1) := by decide +kernel
theorem dX8_swell_67 : decode cX8_swell 67 = .ok (.goto 25, 3) := by decide +kernel
theorem dX8_swell_70 : decode cX8_swell 70 = .ok (.iload_n 3, 1) := by decide +kernel
theorem dX8_swell_71 : decode cX8_swell 71 = .ok (.iconst 1, 1) := by decide +kernel
theorem dX8_swell_72 : decode cX8_swell 72 = .ok (.if_icmp .ne 16, 3) := by decide +kernel
theorem dX8_swell_75 : decode cX8_swell 75 = .ok (.aload_n 0, 1) := by decide +kernel
theorem dX8_swell_76 : decode cX8_swell 76 = .ok (.getfield 167, 3) := by decide +kernel
theorem dX8_swell_79 : decode cX8_swell 79 = .ok (.invokestatic 170, 3) := by decide +kernel
theorem dX8_swell_82 : decode cX8_swell 82 = .ok (.iload 4, 2) := by decide +kernel
theorem dX8_swell_84 : decode cX8_swell 84 = .ok (.idiv, 1) := by decide +kernel
theorem dX8_swell_85 : decode cX8_swell 85 = .ok (.goto 7, 3) := by decide +kernel
theorem dX8_swell_88 : decode cX8_swell 88 = .ok (.aload_n 0, 1) := by decide +kernel
theorem dX8_swell_89 : decode cX8_swell 89 = .ok (.getfield 167, 3) := by decide +kernel
theorem dX8_swell_92 : decode cX8_swell 92 = .ok (.ireturn, 1) := by decide +kernel
set_option maxRecDepth 20000 in
theorem ggX8_shrink_X8_isSlot : GoodIn wsX8_shrink wsX8_isSlot := goodIn_r _ [7, 8, 9, 10, 6, 11] (by decide +kernel) (by decide +kernel)
set_option maxRecDepth 20000 in
theorem gX8_shrink_X8_isSlot : GoodIn wsX8_shrink (va_wsS RX8 87 yX8_isSlot wsX8_isSlot) := goodIn_app (goodIn_of _ (by decide +kernel)) ggX8_shrink_X8_isSlot
set_option maxRecDepth 20000 in
theorem ggX8_shrink_X8_findLeast : GoodIn wsX8_shrink wsX8_findLeast := goodIn_r _ [15, 3, 16, 2, 17, 18, 19, 20, 6, 21, 22, 23, 24, 25, 26, 1, 27, 28, 29, 30, 31, 32, 33, 48, 49, 50, 51, 52, 53, 54, 55, 56, 57, 58, 59, 60, 61, 62, 63, 64] (by decide +kernel) (by decide +kernel)
set_option maxRecDepth 20000 in
theorem gX8_shrink_X8_findLeast : GoodIn wsX8_shrink (wsV RX8 183 RX8 yX8_findLeast wsX8_findLeast) := goodIn_app (goodIn_of _ (by decide +kernel)) ggX8_shrink_X8_findLeast
set_option maxRecDepth 20000 in
theorem ggX8_shrink_X8_becomes : GoodIn wsX8_shrink wsX8_becomes := goodIn_r _ [37, 22, 1, 38, 39, 40, 6, 41, 42, 43, 44, 45, 46, 47, 48, 49, 50, 51, 52, 53, 54, 55, 56, 57, 58, 59, 60, 61, 62, 63, 64] (by decide +kernel) (by decide +kernel)
set_option maxRecDepth 20000 in
theorem gX8_shrink_X8_becomes : GoodIn wsX8_shrink (wsV RX8 111 RX8 yX8_becomes wsX8_becomes) := goodIn_app (goodIn_of _ (by decide +kernel)) ggX8_shrink_X8_becomes
theorem dX8_shrink_0 : decode cX8_shrink 0 = .ok (.iload_n 1, 1) := by decide +kernel
theorem dX8_shrink_1 : decode cX8_shrink 1 = .ok (.invokestatic 87, 3) := by decide +kernel
theorem dX8_shrink_4 : decode cX8_shrink 4 = .ok (.ifCond .eq 17, 3) := by decide +kernel
theorem dX8_shrink_7 : decode cX8_shrink 7 = .ok (.iload_n 2, 1) := by decide +kernel
theorem dX8_shrink_8 : decode cX8_shrink 8 = .ok (.invokestatic 87, 3) := by decide +kernel
theorem dX8_shrink_11 : decode cX8_shrink 11 = .ok (.ifCond .eq 10, 3) := by decide +kernel
theorem dX8_shrink_14 : decode cX8_shrink 14 = .ok (.iload_n 3, 1) := by decide +kernel
theorem dX8_shrink_15 : decode cX8_shrink 15 = .ok (.invokestatic 87, 3) := by decide +kernel
theorem dX8_shrink_18 : decode cX8_shrink 18 = .ok (.ifCond .ne 5, 3) := by decide +kernel
theorem dX8_shrink_21 : decode cX8_shrink 21 = .ok (.iconst (-1), 1) := by decide +kernel
theorem dX8_shrink_22 : decode cX8_shrink 22 = .ok (.ireturn, 1) := by decide +kernel
theorem dX8_shrink_23 : decode cX8_shrink 23 = .ok (.aload_n 0, 1) := by decide +kernel
theorem dX8_shrink_24 : decode cX8_shrink 24 = .ok (.iload_n 2, 1) := by decide +kernel
theorem dX8_shrink_25 : decode cX8_shrink 25 = .ok (.iload_n 3, 1) := by decide +kernel
theorem dX8_shrink_26 : decode cX8_shrink 26 = .ok (.invokevirtual 183, 3) := by decide +kernel
theorem dX8_shrink_29 : decode cX8_shrink 29 = .ok (.ifCond .ne 6, 3) := by decide +kernel
theorem dX8_shrink_32 : decode cX8_shrink 32 = .ok (.bipush (-2), 2) := by decide +kernel
theorem dX8_shrink_34 : decode cX8_shrink 34 = .ok (.ireturn, 1) := by decide +kernel
theorem dX8_shrink_35 : decode cX8_shrink 35 = .ok (.iconst 0, 1) := by decide +kernel
theorem dX8_shrink_36 : decode cX8_shrink 36 = .ok (.istore 4, 2) := by decide +kernel
theorem dX8_shrink_38 : decode cX8_shrink 38 = .ok (.iload 4, 2) := by decide +kernel
theorem dX8_shrink_40 : decode cX8_shrink 40 = .ok (.bipush 41, 2) := by decide +kernel
theorem dX8_shrink_42 : decode cX8_shrink 42 = .ok (.if_icmp .ge 17, 3) := by decide +kernel
theorem dX8_shrink_45 : decode cX8_shrink 45 = .ok (.aload_n 0, 1) := by decide +kernel
theorem dX8_shrink_46 : decode cX8_shrink 46 = .ok (.getfield 29, 3) := by decide +kernel
theorem dX8_shrink_49 : decode cX8_shrink 49 = .ok (.iload 4, 2) := by decide +kernel
theorem dX8_shrink_51 : decode cX8_shrink 51 = .ok (.iconst 0, 1) := by decide +kernel
theorem dX8_shrink_52 : decode cX8_shrink 52 = .ok (.bastore, 1) := by decide +kernel
theorem dX8_shrink_53 : decode cX8_shrink 53 = .ok (.iinc 4 1, 3) := by decide +kernel
theorem dX8_shrink_56 : decode cX8_shrink 56 = .ok (.goto (-18), 3) := by decide +kernel
theorem dX8_shrink_59 : decode cX8_shrink 59 = .ok (.iconst 0, 1) := by decide +kernel
theorem dX8_shrink_60 : decode cX8_shrink 60 = .ok (.istore 4, 2) := by decide +kernel
theorem dX8_shrink_62 : decode cX8_shrink 62 = .ok (.iload 4, 2) := by decide +kernel
theorem dX8_shrink_64 : decode cX8_shrink 64 = .ok (.bipush 12, 2) := by decide +kernel
theorem dX8_shrink_66 : decode cX8_shrink 66 = .ok (.if_icmp .ge 35, 3) := by decide +kernel
theorem dX8_shrink_69 : decode cX8_shrink 69 = .ok (.aload_n 0, 1) := by decide +kernel
theorem dX8_shrink_70 : decode cX8_shrink 70 = .ok (.getfield 167, 3) := by decide +kernel
theorem dX8_shrink_73 : decode cX8_shrink 73 = .ok (.iload 4, 2) := by decide +kernel
theorem dX8_shrink_75 : decode cX8_shrink 75 = .ok (.ishr, 1) := by decide +kernel
theorem dX8_shrink_76 : decode cX8_shrink 76 = .ok (.iconst 1, 1) := by decide +kernel
theorem dX8_shrink_77 : decode cX8_shrink 77 = .ok (.iand, 1) := by decide +kernel
theorem dX8_shrink_78 : decode cX8_shrink 78 = .ok (.iconst 1, 1) := by decide +kernel
theorem dX8_shrink_79 : decode cX8_shrink 79 = .ok (.if_icmp .ne 16, 3) := by decide +kernel
theorem dX8_shrink_82 : decode cX8_shrink 82 = .ok (.aload_n 0, 1) := by decide +kernel
theorem dX8_shrink_83 : decode cX8_shrink 83 = .ok (.getfield 29, 3) := by decide +kernel
theorem dX8_shrink_86 : decode cX8_shrink 86 = .ok (.aload_n 0, 1) := by decide +kernel
theorem dX8_shrink_87 : decode cX8_shrink 87 = .ok (.getfield 23, 3) := by decide +kernel
theorem dX8_shrink_90 : decode cX8_shrink 90 = .ok (.iload 4, 2) := by decide +kernel
theorem dX8_shrink_92 : decode cX8_shrink 92 = .ok (.iaload, 1) := by decide +kernel
theorem dX8_shrink_93 : decode cX8_shrink 93 = .ok (.iconst 1, 1) := by decide +kernel
theorem dX8_shrink_94 : decode cX8_shrink 94 = .ok (.bastore, 1) := by decide +kernel
theorem dX8_shrink_95 : decode cX8_shrink 95 = .ok (.iinc 4 1, 3) := by decide +kernel
theorem dX8_shrink_98 : decode cX8_shrink 98 = .ok (.goto (-36), 3) := by decide +kernel
theorem dX8_shrink_101 : decode cX8_shrink 101 = .ok (.aload_n 0, 1) := by decide +kernel
theorem dX8_shrink_102 : decode cX8_shrink 102 = .ok (.iload_n 1, 1) := by decide +kernel
theorem dX8_shrink_103 : decode cX8_shrink 103 = .ok (.invokevirtual 111, 3) := by decide +kernel
theorem dX8_shrink_106 : decode cX8_shrink 106 = .ok (.ireturn, 1) := by decide +kernel
set_option maxRecDepth 20000 in
theorem ggX8_floor_X8_isSlot : GoodIn wsX8_floor wsX8_isSlot := goodIn_r _ [4, 5, 6, 7, 3, 8] (by decide +kernel) (by decide +kernel)
set_option maxRecDepth 20000 in
theorem gX8_floor_X8_isSlot : GoodIn wsX8_floor (va_wsS RX8 87 yX8_isSlot wsX8_isSlot) := goodIn_app (goodIn_of _ (by decide +kernel)) ggX8_floor_X8_isSlot
set_option maxRecDepth 20000 in
theorem ggX8_floor_X8_manyOf : GoodIn wsX8_floor wsX8_manyOf := goodIn_r _ [12, 13, 14, 15, 16, 17, 18, 19, 20, 21, 22, 23, 24, 25, 26, 27, 28, 29, 30] (by decide +kernel) (by decide +kernel)
set_option maxRecDepth 20000 in
theorem gX8_floor_X8_manyOf : GoodIn wsX8_floor (wsV RX8 74 RX8 yX8_manyOf wsX8_manyOf) := goodIn_app (goodIn_of _ (by decide +kernel)) ggX8_floor_X8_manyOf
theorem dX8_floor_0 : decode cX8_floor 0 = .ok (.iload_n 1, 1) := by decide +kernel
theorem dX8_floor_1 : decode cX8_floor 1 = .ok (.invokestatic 87, 3) := by decide +kernel
theorem dX8_floor_4 : decode cX8_floor 4 = .ok (.ifCond .eq 10, 3) := by decide +kernel
theorem dX8_floor_7 : decode cX8_floor 7 = .ok (.iload_n 2, 1) := by decide +kernel
theorem dX8_floor_8 : decode cX8_floor 8 = .ok (.invokestatic 87, 3) := by decide +kernel
theorem dX8_floor_11 : decode cX8_floor 11 = .ok (.ifCond .ne 5, 3) := by decide +kernel
theorem dX8_floor_14 : decode cX8_floor 14 = .ok (.iconst (-1), 1) := by decide +kernel
theorem dX8_floor_15 : decode cX8_floor 15 = .ok (.ireturn, 1) := by decide +kernel
theorem dX8_floor_16 : decode cX8_floor 16 = .ok (.aload_n 0, 1) := by decide +kernel
theorem dX8_floor_17 : decode cX8_floor 17 = .ok (.iload_n 1, 1) := by decide +kernel
theorem dX8_floor_18 : decode cX8_floor 18 = .ok (.invokevirtual 74, 3) := by decide +kernel
theorem dX8_floor_21 : decode cX8_floor 21 = .ok (.istore_n 3, 1) := by decide +kernel
theorem dX8_floor_22 : decode cX8_floor 22 = .ok (.aload_n 0, 1) := by decide +kernel
theorem dX8_floor_23 : decode cX8_floor 23 = .ok (.iload_n 2, 1) := by decide +kernel
theorem dX8_floor_24 : decode cX8_floor 24 = .ok (.invokevirtual 74, 3) := by decide +kernel
theorem dX8_floor_27 : decode cX8_floor 27 = .ok (.istore 4, 2) := by decide +kernel
theorem dX8_floor_29 : decode cX8_floor 29 = .ok (.iload_n 3, 1) := by decide +kernel
theorem dX8_floor_30 : decode cX8_floor 30 = .ok (.ifCond .eq 8, 3) := by decide +kernel
theorem dX8_floor_33 : decode cX8_floor 33 = .ok (.iload 4, 2) := by decide +kernel
theorem dX8_floor_35 : decode cX8_floor 35 = .ok (.ifCond .ne 8, 3) := by decide +kernel
theorem dX8_floor_38 : decode cX8_floor 38 = .ok (.bipush (-2), 2) := by decide +kernel
theorem dX8_floor_40 : decode cX8_floor 40 = .ok (.goto 9, 3) := by decide +kernel
theorem dX8_floor_43 : decode cX8_floor 43 = .ok (.iload_n 3, 1) := by decide +kernel
theorem dX8_floor_44 : decode cX8_floor 44 = .ok (.iload 4, 2) := by decide +kernel
theorem dX8_floor_46 : decode cX8_floor 46 = .ok (.iadd, 1) := by decide +kernel
theorem dX8_floor_47 : decode cX8_floor 47 = .ok (.iconst 1, 1) := by decide +kernel
theorem dX8_floor_48 : decode cX8_floor 48 = .ok (.isub, 1) := by decide +kernel
theorem dX8_floor_49 : decode cX8_floor 49 = .ok (.ireturn, 1) := by decide +kernel
set_option maxRecDepth 20000 in
theorem ggX8_tight_X8_floor : GoodIn wsX8_tight wsX8_floor := goodIn_r _ [5, 6, 7, 4, 8, 9, 10, 11, 12, 13, 14, 15, 16, 17, 33, 34, 35, 36, 37, 38, 39, 40, 41, 42, 43, 44, 45, 46, 47, 48, 49] (by decide +kernel) (by decide +kernel)
set_option maxRecDepth 20000 in
theorem gX8_tight_X8_floor : GoodIn wsX8_tight (wsV RX8 186 RX8 yX8_floor wsX8_floor) := goodIn_app (goodIn_of _ (by decide +kernel)) ggX8_tight_X8_floor
set_option maxRecDepth 20000 in
theorem ggX8_tight_X8_manyOf : GoodIn wsX8_tight wsX8_manyOf := goodIn_r _ [16, 17, 33, 34, 35, 36, 37, 38, 39, 40, 41, 42, 43, 44, 45, 46, 47, 48, 49] (by decide +kernel) (by decide +kernel)
set_option maxRecDepth 20000 in
theorem gX8_tight_X8_manyOf : GoodIn wsX8_tight (wsV RX8 74 RX8 yX8_manyOf wsX8_manyOf) := goodIn_app (goodIn_of _ (by decide +kernel)) ggX8_tight_X8_manyOf
set_option maxRecDepth 20000 in
theorem ggX8_tight_X8_adds : GoodIn wsX8_tight wsX8_adds := goodIn_r _ [21, 22, 23, 24, 25, 26, 27, 4, 28, 17, 29, 30, 31, 32, 33, 34, 35, 36, 37, 38, 39, 40, 41, 42, 43, 44, 45, 46, 47, 48, 49] (by decide +kernel) (by decide +kernel)
set_option maxRecDepth 20000 in
theorem gX8_tight_X8_adds : GoodIn wsX8_tight (wsV RX8 107 RX8 yX8_adds wsX8_adds) := goodIn_app (goodIn_of _ (by decide +kernel)) ggX8_tight_X8_adds
theorem dX8_tight_0 : decode cX8_tight 0 = .ok (.aload_n 0, 1) := by decide +kernel
theorem dX8_tight_1 : decode cX8_tight 1 = .ok (.iload_n 1, 1) := by decide +kernel
theorem dX8_tight_2 : decode cX8_tight 2 = .ok (.iload_n 2, 1) := by decide +kernel
theorem dX8_tight_3 : decode cX8_tight 3 = .ok (.invokevirtual 186, 3) := by decide +kernel
theorem dX8_tight_6 : decode cX8_tight 6 = .ok (.istore_n 3, 1) := by decide +kernel
theorem dX8_tight_7 : decode cX8_tight 7 = .ok (.iload_n 3, 1) := by decide +kernel
theorem dX8_tight_8 : decode cX8_tight 8 = .ok (.ifCond .ge 5, 3) := by decide +kernel
theorem dX8_tight_11 : decode cX8_tight 11 = .ok (.iload_n 3, 1) := by decide +kernel
theorem dX8_tight_12 : decode cX8_tight 12 = .ok (.ireturn, 1) := by decide +kernel
theorem dX8_tight_13 : decode cX8_tight 13 = .ok (.aload_n 0, 1) := by decide +kernel
theorem dX8_tight_14 : decode cX8_tight 14 = .ok (.iload_n 1, 1) := by decide +kernel
theorem dX8_tight_15 : decode cX8_tight 15 = .ok (.invokevirtual 74, 3) := by decide +kernel
theorem dX8_tight_18 : decode cX8_tight 18 = .ok (.iconst 1, 1) := by decide +kernel
theorem dX8_tight_19 : decode cX8_tight 19 = .ok (.if_icmp .le 27, 3) := by decide +kernel
theorem dX8_tight_22 : decode cX8_tight 22 = .ok (.aload_n 0, 1) := by decide +kernel
theorem dX8_tight_23 : decode cX8_tight 23 = .ok (.iload_n 2, 1) := by decide +kernel
theorem dX8_tight_24 : decode cX8_tight 24 = .ok (.invokevirtual 74, 3) := by decide +kernel
theorem dX8_tight_27 : decode cX8_tight 27 = .ok (.iconst 1, 1) := by decide +kernel
theorem dX8_tight_28 : decode cX8_tight 28 = .ok (.if_icmp .le 18, 3) := by decide +kernel
theorem dX8_tight_31 : decode cX8_tight 31 = .ok (.aload_n 0, 1) := by decide +kernel
theorem dX8_tight_32 : decode cX8_tight 32 = .ok (.iload_n 1, 1) := by decide +kernel
theorem dX8_tight_33 : decode cX8_tight 33 = .ok (.iload_n 2, 1) := by decide +kernel
theorem dX8_tight_34 : decode cX8_tight 34 = .ok (.iconst 1, 1) := by decide +kernel
theorem dX8_tight_35 : decode cX8_tight 35 = .ok (.invokevirtual 107, 3) := by decide +kernel
theorem dX8_tight_38 : decode cX8_tight 38 = .ok (.iload_n 3, 1) := by decide +kernel
theorem dX8_tight_39 : decode cX8_tight 39 = .ok (.if_icmp .ne 7, 3) := by decide +kernel
theorem dX8_tight_42 : decode cX8_tight 42 = .ok (.iconst 1, 1) := by decide +kernel
theorem dX8_tight_43 : decode cX8_tight 43 = .ok (.goto 4, 3) := by decide +kernel
theorem dX8_tight_46 : decode cX8_tight 46 = .ok (.iconst 0, 1) := by decide +kernel
theorem dX8_tight_47 : decode cX8_tight 47 = .ok (.ireturn, 1) := by decide +kernel
set_option maxRecDepth 20000 in
theorem ggX8_room_X8_isSlot : GoodIn wsX8_room wsX8_isSlot := goodIn_r _ [6, 7, 8, 9, 5, 10] (by decide +kernel) (by decide +kernel)
set_option maxRecDepth 20000 in
theorem gX8_room_X8_isSlot : GoodIn wsX8_room (va_wsS RX8 87 yX8_isSlot wsX8_isSlot) := goodIn_app (goodIn_of _ (by decide +kernel)) ggX8_room_X8_isSlot
set_option maxRecDepth 20000 in
theorem ggX8_room_X8_adds : GoodIn wsX8_room wsX8_adds := goodIn_r _ [14, 1, 15, 16, 17, 18, 19, 5, 20, 21, 22, 23, 24, 25, 34, 35, 36, 37, 38, 39, 40, 41, 42, 43, 44, 45, 46, 47, 48, 49, 50] (by decide +kernel) (by decide +kernel)
set_option maxRecDepth 20000 in
theorem gX8_room_X8_adds : GoodIn wsX8_room (wsV RX8 107 RX8 yX8_adds wsX8_adds) := goodIn_app (goodIn_of _ (by decide +kernel)) ggX8_room_X8_adds
set_option maxRecDepth 20000 in
theorem ggX8_room_X8_lists : GoodIn wsX8_room wsX8_lists := goodIn_r _ [20, 21, 34, 35, 36, 37, 38, 39, 40, 41, 42, 43, 44, 45, 46, 47, 48, 49, 50] (by decide +kernel) (by decide +kernel)
set_option maxRecDepth 20000 in
theorem gX8_room_X8_lists : GoodIn wsX8_room (wsV RX8 99 RX8 yX8_lists wsX8_lists) := goodIn_app (goodIn_of _ (by decide +kernel)) ggX8_room_X8_lists
set_option maxRecDepth 20000 in
theorem ggX8_room_X8_findCover : GoodIn wsX8_room wsX8_findCover := goodIn_r _ [29, 30, 1, 2, 31, 32, 5, 33, 34, 35, 36, 37, 38, 39, 40, 41, 42, 43, 44, 45, 46, 47, 48, 49, 50] (by decide +kernel) (by decide +kernel)
set_option maxRecDepth 20000 in
theorem gX8_room_X8_findCover : GoodIn wsX8_room (wsV RX8 139 RX8 yX8_findCover wsX8_findCover) := goodIn_app (goodIn_of _ (by decide +kernel)) ggX8_room_X8_findCover
theorem dX8_room_0 : decode cX8_room 0 = .ok (.iload_n 1, 1) := by decide +kernel
theorem dX8_room_1 : decode cX8_room 1 = .ok (.invokestatic 87, 3) := by decide +kernel
theorem dX8_room_4 : decode cX8_room 4 = .ok (.ifCond .ne 5, 3) := by decide +kernel
theorem dX8_room_7 : decode cX8_room 7 = .ok (.iconst (-1), 1) := by decide +kernel
theorem dX8_room_8 : decode cX8_room 8 = .ok (.ireturn, 1) := by decide +kernel
theorem dX8_room_9 : decode cX8_room 9 = .ok (.aload_n 0, 1) := by decide +kernel
theorem dX8_room_10 : decode cX8_room 10 = .ok (.iload_n 1, 1) := by decide +kernel
theorem dX8_room_11 : decode cX8_room 11 = .ok (.iload_n 1, 1) := by decide +kernel
theorem dX8_room_12 : decode cX8_room 12 = .ok (.iconst 1, 1) := by decide +kernel
theorem dX8_room_13 : decode cX8_room 13 = .ok (.invokevirtual 107, 3) := by decide +kernel
theorem dX8_room_16 : decode cX8_room 16 = .ok (.istore_n 2, 1) := by decide +kernel
theorem dX8_room_17 : decode cX8_room 17 = .ok (.aload_n 0, 1) := by decide +kernel
theorem dX8_room_18 : decode cX8_room 18 = .ok (.iload_n 1, 1) := by decide +kernel
theorem dX8_room_19 : decode cX8_room 19 = .ok (.aload_n 0, 1) := by decide +kernel
theorem dX8_room_20 : decode cX8_room 20 = .ok (.getfield 23, 3) := by decide +kernel
theorem dX8_room_23 : decode cX8_room 23 = .ok (.invokevirtual 99, 3) := by decide +kernel
theorem dX8_room_26 : decode cX8_room 26 = .ok (.istore_n 3, 1) := by decide +kernel
theorem dX8_room_27 : decode cX8_room 27 = .ok (.iload_n 3, 1) := by decide +kernel
theorem dX8_room_28 : decode cX8_room 28 = .ok (.iconst 3, 1) := by decide +kernel
theorem dX8_room_29 : decode cX8_room 29 = .ok (.if_icmp .lt 12, 3) := by decide +kernel
theorem dX8_room_32 : decode cX8_room 32 = .ok (.iload_n 2, 1) := by decide +kernel
theorem dX8_room_33 : decode cX8_room 33 = .ok (.iconst 3, 1) := by decide +kernel
theorem dX8_room_34 : decode cX8_room 34 = .ok (.iload_n 3, 1) := by decide +kernel
theorem dX8_room_35 : decode cX8_room 35 = .ok (.imul, 1) := by decide +kernel
theorem dX8_room_36 : decode cX8_room 36 = .ok (.iconst 4, 1) := by decide +kernel
theorem dX8_room_37 : decode cX8_room 37 = .ok (.isub, 1) := by decide +kernel
theorem dX8_room_38 : decode cX8_room 38 = .ok (.if_icmp .le 6, 3) := by decide +kernel
theorem dX8_room_41 : decode cX8_room 41 = .ok (.bipush (-4), 2) := by decide +kernel
theorem dX8_room_43 : decode cX8_room 43 = .ok (.ireturn, 1) := by decide +kernel
theorem dX8_room_44 : decode cX8_room 44 = .ok (.aload_n 0, 1) := by decide +kernel
theorem dX8_room_45 : decode cX8_room 45 = .ok (.iload_n 3, 1) := by decide +kernel
theorem dX8_room_46 : decode cX8_room 46 = .ok (.invokevirtual 139, 3) := by decide +kernel
theorem dX8_room_49 : decode cX8_room 49 = .ok (.iload_n 2, 1) := by decide +kernel
theorem dX8_room_50 : decode cX8_room 50 = .ok (.iload_n 3, 1) := by decide +kernel
theorem dX8_room_51 : decode cX8_room 51 = .ok (.isub, 1) := by decide +kernel
theorem dX8_room_52 : decode cX8_room 52 = .ok (.iconst 1, 1) := by decide +kernel
theorem dX8_room_53 : decode cX8_room 53 = .ok (.iadd, 1) := by decide +kernel
theorem dX8_room_54 : decode cX8_room 54 = .ok (.aload_n 0, 1) := by decide +kernel
theorem dX8_room_55 : decode cX8_room 55 = .ok (.getfield 134, 3) := by decide +kernel
theorem dX8_room_58 : decode cX8_room 58 = .ok (.isub, 1) := by decide +kernel
theorem dX8_room_59 : decode cX8_room 59 = .ok (.ireturn, 1) := by decide +kernel
theorem dX8_ownSums_0 : decode cX8_ownSums 0 = .ok (.iconst 0, 1) := by decide +kernel
theorem dX8_ownSums_1 : decode cX8_ownSums 1 = .ok (.istore_n 3, 1) := by decide +kernel
theorem dX8_ownSums_2 : decode cX8_ownSums 2 = .ok (.iload_n 3, 1) := by decide +kernel
theorem dX8_ownSums_3 : decode cX8_ownSums 3 = .ok (.iconst 2, 1) := by decide +kernel
theorem dX8_ownSums_4 : decode cX8_ownSums 4 = .ok (.iload_n 2, 1) := by decide +kernel
theorem dX8_ownSums_5 : decode cX8_ownSums 5 = .ok (.imul, 1) := by decide +kernel
theorem dX8_ownSums_6 : decode cX8_ownSums 6 = .ok (.if_icmp .gt 16, 3) := by decide +kernel
theorem dX8_ownSums_9 : decode cX8_ownSums 9 = .ok (.aload_n 0, 1) := by decide +kernel
theorem dX8_ownSums_10 : decode cX8_ownSums 10 = .ok (.getfield 29, 3) := by decide +kernel
theorem dX8_ownSums_13 : decode cX8_ownSums 13 = .ok (.iload_n 3, 1) := by decide +kernel
theorem dX8_ownSums_14 : decode cX8_ownSums 14 = .ok (.iconst 0, 1) := by decide +kernel
theorem dX8_ownSums_15 : decode cX8_ownSums 15 = .ok (.bastore, 1) := by decide +kernel
theorem dX8_ownSums_16 : decode cX8_ownSums 16 = .ok (.iinc 3 1, 3) := by decide +kernel
theorem dX8_ownSums_19 : decode cX8_ownSums 19 = .ok (.goto (-17), 3) := by decide +kernel
theorem dX8_ownSums_22 : decode cX8_ownSums 22 = .ok (.iconst 0, 1) := by decide +kernel
theorem dX8_ownSums_23 : decode cX8_ownSums 23 = .ok (.istore_n 3, 1) := by decide +kernel
theorem dX8_ownSums_24 : decode cX8_ownSums 24 = .ok (.iconst 0, 1) := by decide +kernel
theorem dX8_ownSums_25 : decode cX8_ownSums 25 = .ok (.istore 4, 2) := by decide +kernel
theorem dX8_ownSums_27 : decode cX8_ownSums 27 = .ok (.iload 4, 2) := by decide +kernel
theorem dX8_ownSums_29 : decode cX8_ownSums 29 = .ok (.iload_n 2, 1) := by decide +kernel
theorem dX8_ownSums_30 : decode cX8_ownSums 30 = .ok (.if_icmp .gt 111, 3) := by decide +kernel
theorem dX8_ownSums_33 : decode cX8_ownSums 33 = .ok (.iconst 0, 1) := by decide +kernel
theorem dX8_ownSums_34 : decode cX8_ownSums 34 = .ok (.istore 5, 2) := by decide +kernel
theorem dX8_ownSums_36 : decode cX8_ownSums 36 = .ok (.iload 5, 2) := by decide +kernel
theorem dX8_ownSums_38 : decode cX8_ownSums 38 = .ok (.iload 4, 2) := by decide +kernel
theorem dX8_ownSums_40 : decode cX8_ownSums 40 = .ok (.if_icmp .gt 95, 3) := by decide +kernel
theorem dX8_ownSums_43 : decode cX8_ownSums 43 = .ok (.iload_n 1, 1) := by decide +kernel
theorem dX8_ownSums_44 : decode cX8_ownSums 44 = .ok (.iload 4, 2) := by decide +kernel
theorem dX8_ownSums_46 : decode cX8_ownSums 46 = .ok (.ishr, 1) := by decide +kernel
theorem dX8_ownSums_47 : decode cX8_ownSums 47 = .ok (.iconst 1, 1) := by decide +kernel
theorem dX8_ownSums_48 : decode cX8_ownSums 48 = .ok (.iand, 1) := by decide +kernel
theorem dX8_ownSums_49 : decode cX8_ownSums 49 = .ok (.iconst 1, 1) := by decide +kernel
theorem dX8_ownSums_50 : decode cX8_ownSums 50 = .ok (.if_icmp .ne 30, 3) := by decide +kernel
theorem dX8_ownSums_53 : decode cX8_ownSums 53 = .ok (.iload_n 1, 1) := by decide +kernel
theorem dX8_ownSums_54 : decode cX8_ownSums 54 = .ok (.iload 5, 2) := by decide +kernel
theorem dX8_ownSums_56 : decode cX8_ownSums 56 = .ok (.ishr, 1) := by decide +kernel
theorem dX8_ownSums_57 : decode cX8_ownSums 57 = .ok (.iconst 1, 1) := by decide +kernel
theorem dX8_ownSums_58 : decode cX8_ownSums 58 = .ok (.iand, 1) := by decide +kernel
theorem dX8_ownSums_59 : decode cX8_ownSums 59 = .ok (.iconst 1, 1) := by decide +kernel
theorem dX8_ownSums_60 : decode cX8_ownSums 60 = .ok (.if_icmp .ne 20, 3) := by decide +kernel
theorem dX8_ownSums_63 : decode cX8_ownSums 63 = .ok (.aload_n 0, 1) := by decide +kernel
theorem dX8_ownSums_64 : decode cX8_ownSums 64 = .ok (.getfield 29, 3) := by decide +kernel
theorem dX8_ownSums_67 : decode cX8_ownSums 67 = .ok (.iload 4, 2) := by decide +kernel
theorem dX8_ownSums_69 : decode cX8_ownSums 69 = .ok (.iload 5, 2) := by decide +kernel
theorem dX8_ownSums_71 : decode cX8_ownSums 71 = .ok (.iadd, 1) := by decide +kernel
theorem dX8_ownSums_72 : decode cX8_ownSums 72 = .ok (.baload, 1) := by decide +kernel
theorem dX8_ownSums_73 : decode cX8_ownSums 73 = .ok (.ifCond .ne 7, 3) := by decide +kernel
theorem dX8_ownSums_76 : decode cX8_ownSums 76 = .ok (.iconst 1, 1) := by decide +kernel
theorem dX8_ownSums_77 : decode cX8_ownSums 77 = .ok (.goto 4, 3) := by decide +kernel
theorem dX8_ownSums_80 : decode cX8_ownSums 80 = .ok (.iconst 0, 1) := by decide +kernel
theorem dX8_ownSums_81 : decode cX8_ownSums 81 = .ok (.istore 6, 2) := by decide +kernel
theorem dX8_ownSums_83 : decode cX8_ownSums 83 = .ok (.iload_n 3, 1) := by decide +kernel
theorem dX8_ownSums_84 : decode cX8_ownSums 84 = .ok (.iload 6, 2) := by decide +kernel
theorem dX8_ownSums_86 : decode cX8_ownSums 86 = .ok (.ifCond .eq 7, 3) := by decide +kernel
theorem dX8_ownSums_89 : decode cX8_ownSums 89 = .ok (.iconst 1, 1) := by decide +kernel
theorem dX8_ownSums_90 : decode cX8_ownSums 90 = .ok (.goto 4, 3) := by decide +kernel
theorem dX8_ownSums_93 : decode cX8_ownSums 93 = .ok (.iconst 0, 1) := by decide +kernel
theorem dX8_ownSums_94 : decode cX8_ownSums 94 = .ok (.iadd, 1) := by decide +kernel
theorem dX8_ownSums_95 : decode cX8_ownSums 95 = .ok (.istore_n 3, 1) := by decide +kernel
theorem dX8_ownSums_96 : decode cX8_ownSums 96 = .ok (.aload_n 0, 1) := by decide +kernel
theorem dX8_ownSums_97 : decode cX8_ownSums 97 = .ok (.getfield 29, 3) := by decide +kernel
theorem dX8_ownSums_100 : decode cX8_ownSums 100 = .ok (.iload 4, 2) := by decide +kernel
theorem dX8_ownSums_102 : decode cX8_ownSums 102 = .ok (.iload 5, 2) := by decide +kernel
theorem dX8_ownSums_104 : decode cX8_ownSums 104 = .ok (.iadd, 1) := by decide +kernel
theorem dX8_ownSums_105 : decode cX8_ownSums 105 = .ok (.aload_n 0, 1) := by decide +kernel
theorem dX8_ownSums_106 : decode cX8_ownSums 106 = .ok (.getfield 29, 3) := by decide +kernel
theorem dX8_ownSums_109 : decode cX8_ownSums 109 = .ok (.iload 4, 2) := by decide +kernel
theorem dX8_ownSums_111 : decode cX8_ownSums 111 = .ok (.iload 5, 2) := by decide +kernel
theorem dX8_ownSums_113 : decode cX8_ownSums 113 = .ok (.iadd, 1) := by decide +kernel
theorem dX8_ownSums_114 : decode cX8_ownSums 114 = .ok (.baload, 1) := by decide +kernel
theorem dX8_ownSums_115 : decode cX8_ownSums 115 = .ok (.ifCond .ne 8, 3) := by decide +kernel
theorem dX8_ownSums_118 : decode cX8_ownSums 118 = .ok (.iload 6, 2) := by decide +kernel
theorem dX8_ownSums_120 : decode cX8_ownSums 120 = .ok (.ifCond .eq 7, 3) := by decide +kernel
theorem dX8_ownSums_123 : decode cX8_ownSums 123 = .ok (.iconst 1, 1) := by decide +kernel
theorem dX8_ownSums_124 : decode cX8_ownSums 124 = .ok (.goto 4, 3) := by decide +kernel
theorem dX8_ownSums_127 : decode cX8_ownSums 127 = .ok (.iconst 0, 1) := by decide +kernel
theorem dX8_ownSums_128 : decode cX8_ownSums 128 = .ok (.bastore, 1) := by decide +kernel
theorem dX8_ownSums_129 : decode cX8_ownSums 129 = .ok (.iinc 5 1, 3) := by decide +kernel
theorem dX8_ownSums_132 : decode cX8_ownSums 132 = .ok (.goto (-96), 3) := by decide +kernel
theorem dX8_ownSums_135 : decode cX8_ownSums 135 = .ok (.iinc 4 1, 3) := by decide +kernel
theorem dX8_ownSums_138 : decode cX8_ownSums 138 = .ok (.goto (-111), 3) := by decide +kernel
theorem dX8_ownSums_141 : decode cX8_ownSums 141 = .ok (.iload_n 3, 1) := by decide +kernel
theorem dX8_ownSums_142 : decode cX8_ownSums 142 = .ok (.ireturn, 1) := by decide +kernel
theorem dX8_isOfSize_0 : decode cX8_isOfSize 0 = .ok (.iconst 0, 1) := by decide +kernel
theorem dX8_isOfSize_1 : decode cX8_isOfSize 1 = .ok (.istore_n 3, 1) := by decide +kernel
theorem dX8_isOfSize_2 : decode cX8_isOfSize 2 = .ok (.iconst 0, 1) := by decide +kernel
theorem dX8_isOfSize_3 : decode cX8_isOfSize 3 = .ok (.istore 4, 2) := by decide +kernel
theorem dX8_isOfSize_5 : decode cX8_isOfSize 5 = .ok (.iload 4, 2) := by decide +kernel
theorem dX8_isOfSize_7 : decode cX8_isOfSize 7 = .ok (.iload_n 2, 1) := by decide +kernel
theorem dX8_isOfSize_8 : decode cX8_isOfSize 8 = .ok (.if_icmp .gt 18, 3) := by decide +kernel
theorem dX8_isOfSize_11 : decode cX8_isOfSize 11 = .ok (.iload_n 3, 1) := by decide +kernel
theorem dX8_isOfSize_12 : decode cX8_isOfSize 12 = .ok (.iload_n 0, 1) := by decide +kernel
theorem dX8_isOfSize_13 : decode cX8_isOfSize 13 = .ok (.iload 4, 2) := by decide +kernel
theorem dX8_isOfSize_15 : decode cX8_isOfSize 15 = .ok (.ishr, 1) := by decide +kernel
theorem dX8_isOfSize_16 : decode cX8_isOfSize 16 = .ok (.iconst 1, 1) := by decide +kernel
theorem dX8_isOfSize_17 : decode cX8_isOfSize 17 = .ok (.iand, 1) := by decide +kernel
theorem dX8_isOfSize_18 : decode cX8_isOfSize 18 = .ok (.iadd, 1) := by decide +kernel
theorem dX8_isOfSize_19 : decode cX8_isOfSize 19 = .ok (.istore_n 3, 1) := by decide +kernel
theorem dX8_isOfSize_20 : decode cX8_isOfSize 20 = .ok (.iinc 4 1, 3) := by decide +kernel
theorem dX8_isOfSize_23 : decode cX8_isOfSize 23 = .ok (.goto (-18), 3) := by decide +kernel
theorem dX8_isOfSize_26 : decode cX8_isOfSize 26 = .ok (.iload_n 3, 1) := by decide +kernel
theorem dX8_isOfSize_27 : decode cX8_isOfSize 27 = .ok (.iload_n 1, 1) := by decide +kernel
theorem dX8_isOfSize_28 : decode cX8_isOfSize 28 = .ok (.if_icmp .ne 23, 3) := by decide +kernel
theorem dX8_isOfSize_31 : decode cX8_isOfSize 31 = .ok (.iload_n 0, 1) := by decide +kernel
theorem dX8_isOfSize_32 : decode cX8_isOfSize 32 = .ok (.iconst 1, 1) := by decide +kernel
theorem dX8_isOfSize_33 : decode cX8_isOfSize 33 = .ok (.iand, 1) := by decide +kernel
theorem dX8_isOfSize_34 : decode cX8_isOfSize 34 = .ok (.iconst 1, 1) := by decide +kernel
theorem dX8_isOfSize_35 : decode cX8_isOfSize 35 = .ok (.if_icmp .ne 16, 3) := by decide +kernel
theorem dX8_isOfSize_38 : decode cX8_isOfSize 38 = .ok (.iload_n 0, 1) := by decide +kernel
theorem dX8_isOfSize_39 : decode cX8_isOfSize 39 = .ok (.iload_n 2, 1) := by decide +kernel
theorem dX8_isOfSize_40 : decode cX8_isOfSize 40 = .ok (.ishr, 1) := by decide +kernel
theorem dX8_isOfSize_41 : decode cX8_isOfSize 41 = .ok (.iconst 1, 1) := by decide +kernel
theorem dX8_isOfSize_42 : decode cX8_isOfSize 42 = .ok (.iand, 1) := by decide +kernel
theorem dX8_isOfSize_43 : decode cX8_isOfSize 43 = .ok (.iconst 1, 1) := by decide +kernel
theorem dX8_isOfSize_44 : decode cX8_isOfSize 44 = .ok (.if_icmp .ne 7, 3) := by decide +kernel
theorem dX8_isOfSize_47 : decode cX8_isOfSize 47 = .ok (.iconst 1, 1) := by decide +kernel
theorem dX8_isOfSize_48 : decode cX8_isOfSize 48 = .ok (.goto 4, 3) := by decide +kernel
theorem dX8_isOfSize_51 : decode cX8_isOfSize 51 = .ok (.iconst 0, 1) := by decide +kernel
theorem dX8_isOfSize_52 : decode cX8_isOfSize 52 = .ok (.ireturn, 1) := by decide +kernel
set_option maxRecDepth 20000 in
theorem ggX8_smallest_X8_in : GoodIn wsX8_smallest wsX8_in := goodIn_r _ [6] (by decide +kernel) (by decide +kernel)
set_option maxRecDepth 20000 in
theorem gX8_smallest_X8_in : GoodIn wsX8_smallest (va_wsS RX8 43 yX8_in wsX8_in) := goodIn_app (goodIn_of _ (by decide +kernel)) ggX8_smallest_X8_in
set_option maxRecDepth 20000 in
theorem ggX8_smallest_X8_isOfSize : GoodIn wsX8_smallest wsX8_isOfSize := goodIn_r _ [9] (by decide +kernel) (by decide +kernel)
set_option maxRecDepth 20000 in
theorem gX8_smallest_X8_isOfSize : GoodIn wsX8_smallest (va_wsS RX8 193 yX8_isOfSize wsX8_isOfSize) := goodIn_app (goodIn_of _ (by decide +kernel)) ggX8_smallest_X8_isOfSize
set_option maxRecDepth 20000 in
theorem ggX8_smallest_X8_ownSums : GoodIn wsX8_smallest wsX8_ownSums := goodIn_r _ [13, 14, 15, 16, 17, 18, 19, 20, 21, 22, 23, 24, 25, 26, 27, 28, 29, 30, 31] (by decide +kernel) (by decide +kernel)
set_option maxRecDepth 20000 in
theorem gX8_smallest_X8_ownSums : GoodIn wsX8_smallest (wsV RX8 197 RX8 yX8_ownSums wsX8_ownSums) := goodIn_app (goodIn_of _ (by decide +kernel)) ggX8_smallest_X8_ownSums
theorem dX8_smallest_0 : decode cX8_smallest 0 = .ok (.iload_n 1, 1) := by decide +kernel
theorem dX8_smallest_1 : decode cX8_smallest 1 = .ok (.i2l, 1) := by decide +kernel
theorem dX8_smallest_2 : decode cX8_smallest 2 = .ok (.lconst 1, 1) := by decide +kernel
theorem dX8_smallest_3 : decode cX8_smallest 3 = .ok (.ldc2_w 189, 3) := by decide +kernel
theorem dX8_smallest_6 : decode cX8_smallest 6 = .ok (.invokestatic 43, 3) := by decide +kernel
theorem dX8_smallest_9 : decode cX8_smallest 9 = .ok (.ifCond .eq 33, 3) := by decide +kernel
theorem dX8_smallest_12 : decode cX8_smallest 12 = .ok (.iload_n 2, 1) := by decide +kernel
theorem dX8_smallest_13 : decode cX8_smallest 13 = .ok (.i2l, 1) := by decide +kernel
theorem dX8_smallest_14 : decode cX8_smallest 14 = .ok (.iload_n 1, 1) := by decide +kernel
theorem dX8_smallest_15 : decode cX8_smallest 15 = .ok (.iconst 1, 1) := by decide +kernel
theorem dX8_smallest_16 : decode cX8_smallest 16 = .ok (.isub, 1) := by decide +kernel
theorem dX8_smallest_17 : decode cX8_smallest 17 = .ok (.i2l, 1) := by decide +kernel
theorem dX8_smallest_18 : decode cX8_smallest 18 = .ok (.iload_n 1, 1) := by decide +kernel
theorem dX8_smallest_19 : decode cX8_smallest 19 = .ok (.iconst 1, 1) := by decide +kernel
theorem dX8_smallest_20 : decode cX8_smallest 20 = .ok (.if_icmp .ne 7, 3) := by decide +kernel
theorem dX8_smallest_23 : decode cX8_smallest 23 = .ok (.lconst 0, 1) := by decide +kernel
theorem dX8_smallest_24 : decode cX8_smallest 24 = .ok (.goto 6, 3) := by decide +kernel
theorem dX8_smallest_27 : decode cX8_smallest 27 = .ok (.ldc2_w 191, 3) := by decide +kernel
theorem dX8_smallest_30 : decode cX8_smallest 30 = .ok (.invokestatic 43, 3) := by decide +kernel
theorem dX8_smallest_33 : decode cX8_smallest 33 = .ok (.ifCond .eq 9, 3) := by decide +kernel
theorem dX8_smallest_36 : decode cX8_smallest 36 = .ok (.iload_n 3, 1) := by decide +kernel
theorem dX8_smallest_37 : decode cX8_smallest 37 = .ok (.bipush (-2), 2) := by decide +kernel
theorem dX8_smallest_39 : decode cX8_smallest 39 = .ok (.if_icmp .ge 5, 3) := by decide +kernel
theorem dX8_smallest_42 : decode cX8_smallest 42 = .ok (.iconst (-1), 1) := by decide +kernel
theorem dX8_smallest_43 : decode cX8_smallest 43 = .ok (.ireturn, 1) := by decide +kernel
theorem dX8_smallest_44 : decode cX8_smallest 44 = .ok (.sipush 1000, 3) := by decide +kernel
theorem dX8_smallest_47 : decode cX8_smallest 47 = .ok (.istore 4, 2) := by decide +kernel
theorem dX8_smallest_49 : decode cX8_smallest 49 = .ok (.iconst 0, 1) := by decide +kernel
theorem dX8_smallest_50 : decode cX8_smallest 50 = .ok (.istore 5, 2) := by decide +kernel
theorem dX8_smallest_52 : decode cX8_smallest 52 = .ok (.iconst 1, 1) := by decide +kernel
theorem dX8_smallest_53 : decode cX8_smallest 53 = .ok (.istore 6, 2) := by decide +kernel
theorem dX8_smallest_55 : decode cX8_smallest 55 = .ok (.iload 6, 2) := by decide +kernel
theorem dX8_smallest_57 : decode cX8_smallest 57 = .ok (.iconst 2, 1) := by decide +kernel
theorem dX8_smallest_58 : decode cX8_smallest 58 = .ok (.iload_n 2, 1) := by decide +kernel
theorem dX8_smallest_59 : decode cX8_smallest 59 = .ok (.ishl, 1) := by decide +kernel
theorem dX8_smallest_60 : decode cX8_smallest 60 = .ok (.if_icmp .ge 73, 3) := by decide +kernel
theorem dX8_smallest_63 : decode cX8_smallest 63 = .ok (.iload 6, 2) := by decide +kernel
theorem dX8_smallest_65 : decode cX8_smallest 65 = .ok (.iload_n 1, 1) := by decide +kernel
theorem dX8_smallest_66 : decode cX8_smallest 66 = .ok (.iload_n 2, 1) := by decide +kernel
theorem dX8_smallest_67 : decode cX8_smallest 67 = .ok (.invokestatic 193, 3) := by decide +kernel
theorem dX8_smallest_70 : decode cX8_smallest 70 = .ok (.ifCond .eq 57, 3) := by decide +kernel
theorem dX8_smallest_73 : decode cX8_smallest 73 = .ok (.aload_n 0, 1) := by decide +kernel
theorem dX8_smallest_74 : decode cX8_smallest 74 = .ok (.iload 6, 2) := by decide +kernel
theorem dX8_smallest_76 : decode cX8_smallest 76 = .ok (.iload_n 2, 1) := by decide +kernel
theorem dX8_smallest_77 : decode cX8_smallest 77 = .ok (.invokevirtual 197, 3) := by decide +kernel
theorem dX8_smallest_80 : decode cX8_smallest 80 = .ok (.istore 7, 2) := by decide +kernel
theorem dX8_smallest_82 : decode cX8_smallest 82 = .ok (.iload 7, 2) := by decide +kernel
theorem dX8_smallest_84 : decode cX8_smallest 84 = .ok (.iload 4, 2) := by decide +kernel
theorem dX8_smallest_86 : decode cX8_smallest 86 = .ok (.if_icmp .ge 7, 3) := by decide +kernel
theorem dX8_smallest_89 : decode cX8_smallest 89 = .ok (.iconst 1, 1) := by decide +kernel
theorem dX8_smallest_90 : decode cX8_smallest 90 = .ok (.goto 19, 3) := by decide +kernel
theorem dX8_smallest_93 : decode cX8_smallest 93 = .ok (.iload 7, 2) := by decide +kernel
theorem dX8_smallest_95 : decode cX8_smallest 95 = .ok (.iload 4, 2) := by decide +kernel
theorem dX8_smallest_97 : decode cX8_smallest 97 = .ok (.if_icmp .ne 10, 3) := by decide +kernel
theorem dX8_smallest_100 : decode cX8_smallest 100 = .ok (.iload 5, 2) := by decide +kernel
theorem dX8_smallest_102 : decode cX8_smallest 102 = .ok (.iconst 1, 1) := by decide +kernel
theorem dX8_smallest_103 : decode cX8_smallest 103 = .ok (.iadd, 1) := by decide +kernel
theorem dX8_smallest_104 : decode cX8_smallest 104 = .ok (.goto 5, 3) := by decide +kernel
theorem dX8_smallest_107 : decode cX8_smallest 107 = .ok (.iload 5, 2) := by decide +kernel
theorem dX8_smallest_109 : decode cX8_smallest 109 = .ok (.istore 5, 2) := by decide +kernel
theorem dX8_smallest_111 : decode cX8_smallest 111 = .ok (.iload 7, 2) := by decide +kernel
theorem dX8_smallest_113 : decode cX8_smallest 113 = .ok (.iload 4, 2) := by decide +kernel
theorem dX8_smallest_115 : decode cX8_smallest 115 = .ok (.if_icmp .ge 8, 3) := by decide +kernel
theorem dX8_smallest_118 : decode cX8_smallest 118 = .ok (.iload 7, 2) := by decide +kernel
theorem dX8_smallest_120 : decode cX8_smallest 120 = .ok (.goto 5, 3) := by decide +kernel
theorem dX8_smallest_123 : decode cX8_smallest 123 = .ok (.iload 4, 2) := by decide +kernel
theorem dX8_smallest_125 : decode cX8_smallest 125 = .ok (.istore 4, 2) := by decide +kernel
theorem dX8_smallest_127 : decode cX8_smallest 127 = .ok (.iinc 6 1, 3) := by decide +kernel
theorem dX8_smallest_130 : decode cX8_smallest 130 = .ok (.goto (-75), 3) := by decide +kernel
theorem dX8_smallest_133 : decode cX8_smallest 133 = .ok (.iload_n 3, 1) := by decide +kernel
theorem dX8_smallest_134 : decode cX8_smallest 134 = .ok (.ifCond .lt 9, 3) := by decide +kernel
theorem dX8_smallest_137 : decode cX8_smallest 137 = .ok (.iload_n 3, 1) := by decide +kernel
theorem dX8_smallest_138 : decode cX8_smallest 138 = .ok (.iload 5, 2) := by decide +kernel
theorem dX8_smallest_140 : decode cX8_smallest 140 = .ok (.if_icmp .lt 27, 3) := by decide +kernel
theorem dX8_smallest_143 : decode cX8_smallest 143 = .ok (.iload_n 3, 1) := by decide +kernel
theorem dX8_smallest_144 : decode cX8_smallest 144 = .ok (.iconst (-1), 1) := by decide +kernel
theorem dX8_smallest_145 : decode cX8_smallest 145 = .ok (.if_icmp .ne 8, 3) := by decide +kernel
theorem dX8_smallest_148 : decode cX8_smallest 148 = .ok (.iload 4, 2) := by decide +kernel
theorem dX8_smallest_150 : decode cX8_smallest 150 = .ok (.goto 16, 3) := by decide +kernel
theorem dX8_smallest_153 : decode cX8_smallest 153 = .ok (.iload_n 3, 1) := by decide +kernel
theorem dX8_smallest_154 : decode cX8_smallest 154 = .ok (.bipush (-2), 2) := by decide +kernel
theorem dX8_smallest_156 : decode cX8_smallest 156 = .ok (.if_icmp .ne 8, 3) := by decide +kernel
theorem dX8_smallest_159 : decode cX8_smallest 159 = .ok (.iload 5, 2) := by decide +kernel
theorem dX8_smallest_161 : decode cX8_smallest 161 = .ok (.goto 5, 3) := by decide +kernel
theorem dX8_smallest_164 : decode cX8_smallest 164 = .ok (.bipush (-4), 2) := by decide +kernel
theorem dX8_smallest_166 : decode cX8_smallest 166 = .ok (.ireturn, 1) := by decide +kernel
theorem dX8_smallest_167 : decode cX8_smallest 167 = .ok (.iload_n 3, 1) := by decide +kernel
theorem dX8_smallest_168 : decode cX8_smallest 168 = .ok (.istore 6, 2) := by decide +kernel
theorem dX8_smallest_170 : decode cX8_smallest 170 = .ok (.iconst 1, 1) := by decide +kernel
theorem dX8_smallest_171 : decode cX8_smallest 171 = .ok (.istore 7, 2) := by decide +kernel
theorem dX8_smallest_173 : decode cX8_smallest 173 = .ok (.iload 6, 2) := by decide +kernel
theorem dX8_smallest_175 : decode cX8_smallest 175 = .ok (.ifCond .gt 25, 3) := by decide +kernel
theorem dX8_smallest_178 : decode cX8_smallest 178 = .ok (.iload 7, 2) := by decide +kernel
theorem dX8_smallest_180 : decode cX8_smallest 180 = .ok (.iload_n 1, 1) := by decide +kernel
theorem dX8_smallest_181 : decode cX8_smallest 181 = .ok (.iload_n 2, 1) := by decide +kernel
theorem dX8_smallest_182 : decode cX8_smallest 182 = .ok (.invokestatic 193, 3) := by decide +kernel
theorem dX8_smallest_185 : decode cX8_smallest 185 = .ok (.ifCond .eq 15, 3) := by decide +kernel
theorem dX8_smallest_188 : decode cX8_smallest 188 = .ok (.aload_n 0, 1) := by decide +kernel
theorem dX8_smallest_189 : decode cX8_smallest 189 = .ok (.iload 7, 2) := by decide +kernel
theorem dX8_smallest_191 : decode cX8_smallest 191 = .ok (.iload_n 2, 1) := by decide +kernel
theorem dX8_smallest_192 : decode cX8_smallest 192 = .ok (.invokevirtual 197, 3) := by decide +kernel
theorem dX8_smallest_195 : decode cX8_smallest 195 = .ok (.iload 4, 2) := by decide +kernel
theorem dX8_smallest_197 : decode cX8_smallest 197 = .ok (.if_icmp .eq 41, 3) := by decide +kernel
theorem dX8_smallest_200 : decode cX8_smallest 200 = .ok (.iload 6, 2) := by decide +kernel
theorem dX8_smallest_202 : decode cX8_smallest 202 = .ok (.iload 7, 2) := by decide +kernel
theorem dX8_smallest_204 : decode cX8_smallest 204 = .ok (.iload_n 1, 1) := by decide +kernel
theorem dX8_smallest_205 : decode cX8_smallest 205 = .ok (.iload_n 2, 1) := by decide +kernel
theorem dX8_smallest_206 : decode cX8_smallest 206 = .ok (.invokestatic 193, 3) := by decide +kernel
theorem dX8_smallest_209 : decode cX8_smallest 209 = .ok (.ifCond .eq 19, 3) := by decide +kernel
theorem dX8_smallest_212 : decode cX8_smallest 212 = .ok (.aload_n 0, 1) := by decide +kernel
theorem dX8_smallest_213 : decode cX8_smallest 213 = .ok (.iload 7, 2) := by decide +kernel
theorem dX8_smallest_215 : decode cX8_smallest 215 = .ok (.iload_n 2, 1) := by decide +kernel
theorem dX8_smallest_216 : decode cX8_smallest 216 = .ok (.invokevirtual 197, 3) := by decide +kernel
theorem dX8_smallest_219 : decode cX8_smallest 219 = .ok (.iload 4, 2) := by decide +kernel
theorem dX8_smallest_221 : decode cX8_smallest 221 = .ok (.if_icmp .ne 7, 3) := by decide +kernel
theorem dX8_smallest_224 : decode cX8_smallest 224 = .ok (.iconst 1, 1) := by decide +kernel
theorem dX8_smallest_225 : decode cX8_smallest 225 = .ok (.goto 4, 3) := by decide +kernel
theorem dX8_smallest_228 : decode cX8_smallest 228 = .ok (.iconst 0, 1) := by decide +kernel
theorem dX8_smallest_229 : decode cX8_smallest 229 = .ok (.isub, 1) := by decide +kernel
theorem dX8_smallest_230 : decode cX8_smallest 230 = .ok (.istore 6, 2) := by decide +kernel
theorem dX8_smallest_232 : decode cX8_smallest 232 = .ok (.iinc 7 1, 3) := by decide +kernel
theorem dX8_smallest_235 : decode cX8_smallest 235 = .ok (.goto (-62), 3) := by decide +kernel
theorem dX8_smallest_238 : decode cX8_smallest 238 = .ok (.iload 7, 2) := by decide +kernel
theorem dX8_smallest_240 : decode cX8_smallest 240 = .ok (.ireturn, 1) := by decide +kernel
set_option maxRecDepth 20000 in
theorem ggX8_count_X8_manyOf : GoodIn wsX8_count wsX8_manyOf := goodIn_r _ [7, 8, 13, 14, 15, 16, 17, 18, 19, 20, 21, 22, 23, 24, 25, 26, 27, 28, 29] (by decide +kernel) (by decide +kernel)
set_option maxRecDepth 20000 in
theorem gX8_count_X8_manyOf : GoodIn wsX8_count (wsV RX8 74 RX8 yX8_manyOf wsX8_manyOf) := goodIn_app (goodIn_of _ (by decide +kernel)) ggX8_count_X8_manyOf
set_option maxRecDepth 20000 in
theorem ggX8_count_X8_slots : GoodIn wsX8_count wsX8_slots := goodIn_r _ [12, 3, 4, 5, 6, 7, 8, 13, 14, 15, 16, 17, 18, 19, 20, 21, 22, 23, 24, 25, 26, 27, 28, 29] (by decide +kernel) (by decide +kernel)
set_option maxRecDepth 20000 in
theorem gX8_count_X8_slots : GoodIn wsX8_count (wsV RX8 84 RX8 yX8_slots wsX8_slots) := goodIn_app (goodIn_of _ (by decide +kernel)) ggX8_count_X8_slots
theorem dX8_count_0 : decode cX8_count 0 = .ok (.iload_n 1, 1) := by decide +kernel
theorem dX8_count_1 : decode cX8_count 1 = .ok (.tableswitch 64 0 6 #[43, 43, 43, 43, 49, 54, 59], 43) := by decide +kernel
theorem dX8_count_44 : decode cX8_count 44 = .ok (.aload_n 0, 1) := by decide +kernel
theorem dX8_count_45 : decode cX8_count 45 = .ok (.iload_n 1, 1) := by decide +kernel
theorem dX8_count_46 : decode cX8_count 46 = .ok (.invokevirtual 74, 3) := by decide +kernel
theorem dX8_count_49 : decode cX8_count 49 = .ok (.ireturn, 1) := by decide +kernel
theorem dX8_count_50 : decode cX8_count 50 = .ok (.aload_n 0, 1) := by decide +kernel
theorem dX8_count_51 : decode cX8_count 51 = .ok (.getfield 81, 3) := by decide +kernel
theorem dX8_count_54 : decode cX8_count 54 = .ok (.ireturn, 1) := by decide +kernel
theorem dX8_count_55 : decode cX8_count 55 = .ok (.aload_n 0, 1) := by decide +kernel
theorem dX8_count_56 : decode cX8_count 56 = .ok (.getfield 51, 3) := by decide +kernel
theorem dX8_count_59 : decode cX8_count 59 = .ok (.ireturn, 1) := by decide +kernel
theorem dX8_count_60 : decode cX8_count 60 = .ok (.aload_n 0, 1) := by decide +kernel
theorem dX8_count_61 : decode cX8_count 61 = .ok (.invokevirtual 84, 3) := by decide +kernel
theorem dX8_count_64 : decode cX8_count 64 = .ok (.ireturn, 1) := by decide +kernel
theorem dX8_count_65 : decode cX8_count 65 = .ok (.iconst (-1), 1) := by decide +kernel
theorem dX8_count_66 : decode cX8_count 66 = .ok (.ireturn, 1) := by decide +kernel
