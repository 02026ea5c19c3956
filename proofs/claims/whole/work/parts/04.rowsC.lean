set_option maxRecDepth 20000 in
theorem ggX7_init_X7_begins : GoodIn wsX7_init wsX7_begins := goodIn_r _ [24, 7, 8, 11, 13, 10, 31, 32, 33, 34, 35, 36, 37, 38, 39, 40, 41, 42, 43, 44, 45, 46, 47, 48, 49] (by decide +kernel) (by decide +kernel)
set_option maxRecDepth 20000 in
theorem gX7_init_X7_begins : GoodIn wsX7_init (wsV RX7 53 RX7 yX7_begins wsX7_begins) := goodIn_app (goodIn_of _ (by decide +kernel)) ggX7_init_X7_begins
set_option maxRecDepth 20000 in
theorem ggX7_init_X7_takes : GoodIn wsX7_init wsX7_takes := goodIn_r _ [28, 8, 11, 13, 9, 12, 10, 7, 14, 29, 30, 31, 32, 33, 34, 35, 36, 37, 38, 39, 40, 41, 42, 43, 44, 45, 46, 47, 48, 49] (by decide +kernel) (by decide +kernel)
set_option maxRecDepth 20000 in
theorem gX7_init_X7_takes : GoodIn wsX7_init (wsV RX7 56 RX7 yX7_takes wsX7_takes) := goodIn_app (goodIn_of _ (by decide +kernel)) ggX7_init_X7_takes
theorem dX7_init_0 : decode cX7_init 0 = .ok (.aload_n 0, 1) := by decide +kernel
theorem dX7_init_1 : decode cX7_init 1 = .ok (.invokespecial 1, 3) := by decide +kernel
theorem dX7_init_4 : decode cX7_init 4 = .ok (.aload_n 0, 1) := by decide +kernel
theorem dX7_init_5 : decode cX7_init 5 = .ok (.sipush 300, 3) := by decide +kernel
theorem dX7_init_8 : decode cX7_init 8 = .ok (.newarray .byte, 2) := by decide +kernel
theorem dX7_init_10 : decode cX7_init 10 = .ok (.putfield 7, 3) := by decide +kernel
theorem dX7_init_13 : decode cX7_init 13 = .ok (.aload_n 0, 1) := by decide +kernel
theorem dX7_init_14 : decode cX7_init 14 = .ok (.bipush 10, 2) := by decide +kernel
theorem dX7_init_16 : decode cX7_init 16 = .ok (.newarray .int, 2) := by decide +kernel
theorem dX7_init_18 : decode cX7_init 18 = .ok (.putfield 13, 3) := by decide +kernel
theorem dX7_init_21 : decode cX7_init 21 = .ok (.aload_n 0, 1) := by decide +kernel
theorem dX7_init_22 : decode cX7_init 22 = .ok (.iconst 2, 1) := by decide +kernel
theorem dX7_init_23 : decode cX7_init 23 = .ok (.newarray .int, 2) := by decide +kernel
theorem dX7_init_25 : decode cX7_init 25 = .ok (.putfield 17, 3) := by decide +kernel
theorem dX7_init_28 : decode cX7_init 28 = .ok (.aload_n 0, 1) := by decide +kernel
theorem dX7_init_29 : decode cX7_init 29 = .ok (.bipush 48, 2) := by decide +kernel
theorem dX7_init_31 : decode cX7_init 31 = .ok (.newarray .int, 2) := by decide +kernel
theorem dX7_init_33 : decode cX7_init 33 = .ok (.putfield 20, 3) := by decide +kernel
theorem dX7_init_36 : decode cX7_init 36 = .ok (.aload_n 0, 1) := by decide +kernel
theorem dX7_init_37 : decode cX7_init 37 = .ok (.bipush 16, 2) := by decide +kernel
theorem dX7_init_39 : decode cX7_init 39 = .ok (.newarray .int, 2) := by decide +kernel
theorem dX7_init_41 : decode cX7_init 41 = .ok (.putfield 23, 3) := by decide +kernel
theorem dX7_init_44 : decode cX7_init 44 = .ok (.aload_n 0, 1) := by decide +kernel
theorem dX7_init_45 : decode cX7_init 45 = .ok (.iconst 2, 1) := by decide +kernel
theorem dX7_init_46 : decode cX7_init 46 = .ok (.newarray .int, 2) := by decide +kernel
theorem dX7_init_48 : decode cX7_init 48 = .ok (.putfield 26, 3) := by decide +kernel
theorem dX7_init_51 : decode cX7_init 51 = .ok (.aload_n 0, 1) := by decide +kernel
theorem dX7_init_52 : decode cX7_init 52 = .ok (.bipush 24, 2) := by decide +kernel
theorem dX7_init_54 : decode cX7_init 54 = .ok (.newarray .int, 2) := by decide +kernel
theorem dX7_init_56 : decode cX7_init 56 = .ok (.putfield 29, 3) := by decide +kernel
theorem dX7_init_59 : decode cX7_init 59 = .ok (.aload_n 0, 1) := by decide +kernel
theorem dX7_init_60 : decode cX7_init 60 = .ok (.bipush 64, 2) := by decide +kernel
theorem dX7_init_62 : decode cX7_init 62 = .ok (.newarray .int, 2) := by decide +kernel
theorem dX7_init_64 : decode cX7_init 64 = .ok (.putfield 32, 3) := by decide +kernel
theorem dX7_init_67 : decode cX7_init 67 = .ok (.aload_n 0, 1) := by decide +kernel
theorem dX7_init_68 : decode cX7_init 68 = .ok (.sipush 552, 3) := by decide +kernel
theorem dX7_init_71 : decode cX7_init 71 = .ok (.newarray .int, 2) := by decide +kernel
theorem dX7_init_73 : decode cX7_init 73 = .ok (.putfield 35, 3) := by decide +kernel
theorem dX7_init_76 : decode cX7_init 76 = .ok (.aload_n 0, 1) := by decide +kernel
theorem dX7_init_77 : decode cX7_init 77 = .ok (.bipush 32, 2) := by decide +kernel
theorem dX7_init_79 : decode cX7_init 79 = .ok (.newarray .int, 2) := by decide +kernel
theorem dX7_init_81 : decode cX7_init 81 = .ok (.putfield 38, 3) := by decide +kernel
theorem dX7_init_84 : decode cX7_init 84 = .ok (.aload_n 0, 1) := by decide +kernel
theorem dX7_init_85 : decode cX7_init 85 = .ok (.bipush 6, 2) := by decide +kernel
theorem dX7_init_87 : decode cX7_init 87 = .ok (.newarray .int, 2) := by decide +kernel
theorem dX7_init_89 : decode cX7_init 89 = .ok (.putfield 41, 3) := by decide +kernel
theorem dX7_init_92 : decode cX7_init 92 = .ok (.aload_n 0, 1) := by decide +kernel
theorem dX7_init_93 : decode cX7_init 93 = .ok (.iconst 4, 1) := by decide +kernel
theorem dX7_init_94 : decode cX7_init 94 = .ok (.newarray .int, 2) := by decide +kernel
theorem dX7_init_96 : decode cX7_init 96 = .ok (.putfield 44, 3) := by decide +kernel
theorem dX7_init_99 : decode cX7_init 99 = .ok (.aload_n 0, 1) := by decide +kernel
theorem dX7_init_100 : decode cX7_init 100 = .ok (.iconst 4, 1) := by decide +kernel
theorem dX7_init_101 : decode cX7_init 101 = .ok (.newarray .int, 2) := by decide +kernel
theorem dX7_init_103 : decode cX7_init 103 = .ok (.putfield 47, 3) := by decide +kernel
theorem dX7_init_106 : decode cX7_init 106 = .ok (.aload_n 0, 1) := by decide +kernel
theorem dX7_init_107 : decode cX7_init 107 = .ok (.iconst 3, 1) := by decide +kernel
theorem dX7_init_108 : decode cX7_init 108 = .ok (.newarray .int, 2) := by decide +kernel
theorem dX7_init_110 : decode cX7_init 110 = .ok (.putfield 50, 3) := by decide +kernel
theorem dX7_init_113 : decode cX7_init 113 = .ok (.aload_n 0, 1) := by decide +kernel
theorem dX7_init_114 : decode cX7_init 114 = .ok (.invokevirtual 53, 3) := by decide +kernel
theorem dX7_init_117 : decode cX7_init 117 = .ok (.aload_n 0, 1) := by decide +kernel
theorem dX7_init_118 : decode cX7_init 118 = .ok (.getfield 17, 3) := by decide +kernel
theorem dX7_init_121 : decode cX7_init 121 = .ok (.iconst 1, 1) := by decide +kernel
theorem dX7_init_122 : decode cX7_init 122 = .ok (.iconst 2, 1) := by decide +kernel
theorem dX7_init_123 : decode cX7_init 123 = .ok (.iastore, 1) := by decide +kernel
theorem dX7_init_124 : decode cX7_init 124 = .ok (.aload_n 0, 1) := by decide +kernel
theorem dX7_init_125 : decode cX7_init 125 = .ok (.getfield 20, 3) := by decide +kernel
theorem dX7_init_128 : decode cX7_init 128 = .ok (.bipush 25, 2) := by decide +kernel
theorem dX7_init_130 : decode cX7_init 130 = .ok (.iconst 1, 1) := by decide +kernel
theorem dX7_init_131 : decode cX7_init 131 = .ok (.iastore, 1) := by decide +kernel
theorem dX7_init_132 : decode cX7_init 132 = .ok (.aload_n 0, 1) := by decide +kernel
theorem dX7_init_133 : decode cX7_init 133 = .ok (.getfield 20, 3) := by decide +kernel
theorem dX7_init_136 : decode cX7_init 136 = .ok (.bipush 26, 2) := by decide +kernel
theorem dX7_init_138 : decode cX7_init 138 = .ok (.iconst 1, 1) := by decide +kernel
theorem dX7_init_139 : decode cX7_init 139 = .ok (.iastore, 1) := by decide +kernel
theorem dX7_init_140 : decode cX7_init 140 = .ok (.aload_n 0, 1) := by decide +kernel
theorem dX7_init_141 : decode cX7_init 141 = .ok (.getfield 20, 3) := by decide +kernel
theorem dX7_init_144 : decode cX7_init 144 = .ok (.bipush 27, 2) := by decide +kernel
theorem dX7_init_146 : decode cX7_init 146 = .ok (.iconst 1, 1) := by decide +kernel
theorem dX7_init_147 : decode cX7_init 147 = .ok (.iastore, 1) := by decide +kernel
theorem dX7_init_148 : decode cX7_init 148 = .ok (.aload_n 0, 1) := by decide +kernel
theorem dX7_init_149 : decode cX7_init 149 = .ok (.getfield 20, 3) := by decide +kernel
theorem dX7_init_152 : decode cX7_init 152 = .ok (.bipush 28, 2) := by decide +kernel
theorem dX7_init_154 : decode cX7_init 154 = .ok (.iconst 2, 1) := by decide +kernel
theorem dX7_init_155 : decode cX7_init 155 = .ok (.iastore, 1) := by decide +kernel
theorem dX7_init_156 : decode cX7_init 156 = .ok (.aload_n 0, 1) := by decide +kernel
theorem dX7_init_157 : decode cX7_init 157 = .ok (.getfield 20, 3) := by decide +kernel
theorem dX7_init_160 : decode cX7_init 160 = .ok (.bipush 29, 2) := by decide +kernel
theorem dX7_init_162 : decode cX7_init 162 = .ok (.iconst 0, 1) := by decide +kernel
theorem dX7_init_163 : decode cX7_init 163 = .ok (.iastore, 1) := by decide +kernel
theorem dX7_init_164 : decode cX7_init 164 = .ok (.aload_n 0, 1) := by decide +kernel
theorem dX7_init_165 : decode cX7_init 165 = .ok (.getfield 26, 3) := by decide +kernel
theorem dX7_init_168 : decode cX7_init 168 = .ok (.iconst 1, 1) := by decide +kernel
theorem dX7_init_169 : decode cX7_init 169 = .ok (.iconst 2, 1) := by decide +kernel
theorem dX7_init_170 : decode cX7_init 170 = .ok (.iastore, 1) := by decide +kernel
theorem dX7_init_171 : decode cX7_init 171 = .ok (.aload_n 0, 1) := by decide +kernel
theorem dX7_init_172 : decode cX7_init 172 = .ok (.getfield 29, 3) := by decide +kernel
theorem dX7_init_175 : decode cX7_init 175 = .ok (.bipush 13, 2) := by decide +kernel
theorem dX7_init_177 : decode cX7_init 177 = .ok (.iconst 5, 1) := by decide +kernel
theorem dX7_init_178 : decode cX7_init 178 = .ok (.iastore, 1) := by decide +kernel
theorem dX7_init_179 : decode cX7_init 179 = .ok (.aload_n 0, 1) := by decide +kernel
theorem dX7_init_180 : decode cX7_init 180 = .ok (.getfield 29, 3) := by decide +kernel
theorem dX7_init_183 : decode cX7_init 183 = .ok (.bipush 14, 2) := by decide +kernel
theorem dX7_init_185 : decode cX7_init 185 = .ok (.iconst 2, 1) := by decide +kernel
theorem dX7_init_186 : decode cX7_init 186 = .ok (.iastore, 1) := by decide +kernel
theorem dX7_init_187 : decode cX7_init 187 = .ok (.aload_n 0, 1) := by decide +kernel
theorem dX7_init_188 : decode cX7_init 188 = .ok (.getfield 29, 3) := by decide +kernel
theorem dX7_init_191 : decode cX7_init 191 = .ok (.bipush 15, 2) := by decide +kernel
theorem dX7_init_193 : decode cX7_init 193 = .ok (.iconst 2, 1) := by decide +kernel
theorem dX7_init_194 : decode cX7_init 194 = .ok (.iastore, 1) := by decide +kernel
theorem dX7_init_195 : decode cX7_init 195 = .ok (.aload_n 0, 1) := by decide +kernel
theorem dX7_init_196 : decode cX7_init 196 = .ok (.getfield 29, 3) := by decide +kernel
theorem dX7_init_199 : decode cX7_init 199 = .ok (.bipush 16, 2) := by decide +kernel
theorem dX7_init_201 : decode cX7_init 201 = .ok (.iconst 3, 1) := by decide +kernel
theorem dX7_init_202 : decode cX7_init 202 = .ok (.iastore, 1) := by decide +kernel
theorem dX7_init_203 : decode cX7_init 203 = .ok (.aload_n 0, 1) := by decide +kernel
theorem dX7_init_204 : decode cX7_init 204 = .ok (.getfield 29, 3) := by decide +kernel
theorem dX7_init_207 : decode cX7_init 207 = .ok (.bipush 17, 2) := by decide +kernel
theorem dX7_init_209 : decode cX7_init 209 = .ok (.iconst 0, 1) := by decide +kernel
theorem dX7_init_210 : decode cX7_init 210 = .ok (.iastore, 1) := by decide +kernel
theorem dX7_init_211 : decode cX7_init 211 = .ok (.aload_n 0, 1) := by decide +kernel
theorem dX7_init_212 : decode cX7_init 212 = .ok (.invokevirtual 56, 3) := by decide +kernel
theorem dX7_init_215 : decode cX7_init 215 = .ok (.return_, 1) := by decide +kernel
theorem dX7_in_0 : decode cX7_in 0 = .ok (.lload_n 0, 1) := by decide +kernel
theorem dX7_in_1 : decode cX7_in 1 = .ok (.lload_n 2, 1) := by decide +kernel
theorem dX7_in_2 : decode cX7_in 2 = .ok (.lcmp, 1) := by decide +kernel
theorem dX7_in_3 : decode cX7_in 3 = .ok (.ifCond .lt 14, 3) := by decide +kernel
theorem dX7_in_6 : decode cX7_in 6 = .ok (.lload_n 0, 1) := by decide +kernel
theorem dX7_in_7 : decode cX7_in 7 = .ok (.lload 4, 2) := by decide +kernel
theorem dX7_in_9 : decode cX7_in 9 = .ok (.lcmp, 1) := by decide +kernel
theorem dX7_in_10 : decode cX7_in 10 = .ok (.ifCond .gt 7, 3) := by decide +kernel
theorem dX7_in_13 : decode cX7_in 13 = .ok (.iconst 1, 1) := by decide +kernel
theorem dX7_in_14 : decode cX7_in 14 = .ok (.goto 4, 3) := by decide +kernel
theorem dX7_in_17 : decode cX7_in 17 = .ok (.iconst 0, 1) := by decide +kernel
theorem dX7_in_18 : decode cX7_in 18 = .ok (.ireturn, 1) := by decide +kernel
set_option maxRecDepth 20000 in
theorem ggX7_write_X7_in : GoodIn wsX7_write wsX7_in := goodIn_r _ [7] (by decide +kernel) (by decide +kernel)
set_option maxRecDepth 20000 in
theorem gX7_write_X7_in : GoodIn wsX7_write (va_wsS RX7 61 yX7_in wsX7_in) := goodIn_app (goodIn_of _ (by decide +kernel)) ggX7_write_X7_in
theorem dX7_write_0 : decode cX7_write 0 = .ok (.iload_n 1, 1) := by decide +kernel
theorem dX7_write_1 : decode cX7_write 1 = .ok (.i2l, 1) := by decide +kernel
theorem dX7_write_2 : decode cX7_write 2 = .ok (.lconst 1, 1) := by decide +kernel
theorem dX7_write_3 : decode cX7_write 3 = .ok (.ldc2_w 59, 3) := by decide +kernel
theorem dX7_write_6 : decode cX7_write 6 = .ok (.invokestatic 61, 3) := by decide +kernel
theorem dX7_write_9 : decode cX7_write 9 = .ok (.ifCond .ne 5, 3) := by decide +kernel
theorem dX7_write_12 : decode cX7_write 12 = .ok (.iconst (-1), 1) := by decide +kernel
theorem dX7_write_13 : decode cX7_write 13 = .ok (.ireturn, 1) := by decide +kernel
theorem dX7_write_14 : decode cX7_write 14 = .ok (.aload_n 0, 1) := by decide +kernel
theorem dX7_write_15 : decode cX7_write 15 = .ok (.getfield 65, 3) := by decide +kernel
theorem dX7_write_18 : decode cX7_write 18 = .ok (.iload_n 1, 1) := by decide +kernel
theorem dX7_write_19 : decode cX7_write 19 = .ok (.iadd, 1) := by decide +kernel
theorem dX7_write_20 : decode cX7_write 20 = .ok (.sipush 300, 3) := by decide +kernel
theorem dX7_write_23 : decode cX7_write 23 = .ok (.if_icmp .le 6, 3) := by decide +kernel
theorem dX7_write_26 : decode cX7_write 26 = .ok (.bipush (-3), 2) := by decide +kernel
theorem dX7_write_28 : decode cX7_write 28 = .ok (.ireturn, 1) := by decide +kernel
theorem dX7_write_29 : decode cX7_write 29 = .ok (.iload_n 1, 1) := by decide +kernel
theorem dX7_write_30 : decode cX7_write 30 = .ok (.iconst 1, 1) := by decide +kernel
theorem dX7_write_31 : decode cX7_write 31 = .ok (.isub, 1) := by decide +kernel
theorem dX7_write_32 : decode cX7_write 32 = .ok (.istore 4, 2) := by decide +kernel
theorem dX7_write_34 : decode cX7_write 34 = .ok (.iload 4, 2) := by decide +kernel
theorem dX7_write_36 : decode cX7_write 36 = .ok (.ifCond .lt 37, 3) := by decide +kernel
theorem dX7_write_39 : decode cX7_write 39 = .ok (.aload_n 0, 1) := by decide +kernel
theorem dX7_write_40 : decode cX7_write 40 = .ok (.getfield 7, 3) := by decide +kernel
theorem dX7_write_43 : decode cX7_write 43 = .ok (.aload_n 0, 1) := by decide +kernel
theorem dX7_write_44 : decode cX7_write 44 = .ok (.getfield 65, 3) := by decide +kernel
theorem dX7_write_47 : decode cX7_write 47 = .ok (.lload_n 2, 1) := by decide +kernel
theorem dX7_write_48 : decode cX7_write 48 = .ok (.bipush 8, 2) := by decide +kernel
theorem dX7_write_50 : decode cX7_write 50 = .ok (.iload 4, 2) := by decide +kernel
theorem dX7_write_52 : decode cX7_write 52 = .ok (.imul, 1) := by decide +kernel
theorem dX7_write_53 : decode cX7_write 53 = .ok (.lshr, 1) := by decide +kernel
theorem dX7_write_54 : decode cX7_write 54 = .ok (.l2i, 1) := by decide +kernel
theorem dX7_write_55 : decode cX7_write 55 = .ok (.i2b, 1) := by decide +kernel
theorem dX7_write_56 : decode cX7_write 56 = .ok (.bastore, 1) := by decide +kernel
theorem dX7_write_57 : decode cX7_write 57 = .ok (.aload_n 0, 1) := by decide +kernel
theorem dX7_write_58 : decode cX7_write 58 = .ok (.dup, 1) := by decide +kernel
theorem dX7_write_59 : decode cX7_write 59 = .ok (.getfield 65, 3) := by decide +kernel
theorem dX7_write_62 : decode cX7_write 62 = .ok (.iconst 1, 1) := by decide +kernel
theorem dX7_write_63 : decode cX7_write 63 = .ok (.iadd, 1) := by decide +kernel
theorem dX7_write_64 : decode cX7_write 64 = .ok (.putfield 65, 3) := by decide +kernel
theorem dX7_write_67 : decode cX7_write 67 = .ok (.iinc 4 (-1), 3) := by decide +kernel
theorem dX7_write_70 : decode cX7_write 70 = .ok (.goto (-36), 3) := by decide +kernel
theorem dX7_write_73 : decode cX7_write 73 = .ok (.aload_n 0, 1) := by decide +kernel
theorem dX7_write_74 : decode cX7_write 74 = .ok (.getfield 65, 3) := by decide +kernel
theorem dX7_write_77 : decode cX7_write 77 = .ok (.ireturn, 1) := by decide +kernel
theorem dX7_wipe_0 : decode cX7_wipe 0 = .ok (.aload_n 0, 1) := by decide +kernel
theorem dX7_wipe_1 : decode cX7_wipe 1 = .ok (.getfield 65, 3) := by decide +kernel
theorem dX7_wipe_4 : decode cX7_wipe 4 = .ok (.istore_n 1, 1) := by decide +kernel
theorem dX7_wipe_5 : decode cX7_wipe 5 = .ok (.aload_n 0, 1) := by decide +kernel
theorem dX7_wipe_6 : decode cX7_wipe 6 = .ok (.iconst 0, 1) := by decide +kernel
theorem dX7_wipe_7 : decode cX7_wipe 7 = .ok (.putfield 65, 3) := by decide +kernel
theorem dX7_wipe_10 : decode cX7_wipe 10 = .ok (.iload_n 1, 1) := by decide +kernel
theorem dX7_wipe_11 : decode cX7_wipe 11 = .ok (.ireturn, 1) := by decide +kernel
set_option maxRecDepth 20000 in
theorem ggX7_number_X7_in : GoodIn wsX7_number wsX7_in := goodIn_r _ [10] (by decide +kernel) (by decide +kernel)
set_option maxRecDepth 20000 in
theorem gX7_number_X7_in : GoodIn wsX7_number (va_wsS RX7 61 yX7_in wsX7_in) := goodIn_app (goodIn_of _ (by decide +kernel)) ggX7_number_X7_in
theorem dX7_number_0 : decode cX7_number 0 = .ok (.iconst 0, 1) := by decide +kernel
theorem dX7_number_1 : decode cX7_number 1 = .ok (.istore_n 1, 1) := by decide +kernel
theorem dX7_number_2 : decode cX7_number 2 = .ok (.iconst 0, 1) := by decide +kernel
theorem dX7_number_3 : decode cX7_number 3 = .ok (.istore_n 2, 1) := by decide +kernel
theorem dX7_number_4 : decode cX7_number 4 = .ok (.aload_n 0, 1) := by decide +kernel
theorem dX7_number_5 : decode cX7_number 5 = .ok (.getfield 69, 3) := by decide +kernel
theorem dX7_number_8 : decode cX7_number 8 = .ok (.aload_n 0, 1) := by decide +kernel
theorem dX7_number_9 : decode cX7_number 9 = .ok (.getfield 65, 3) := by decide +kernel
theorem dX7_number_12 : decode cX7_number 12 = .ok (.if_icmp .ge 68, 3) := by decide +kernel
theorem dX7_number_15 : decode cX7_number 15 = .ok (.aload_n 0, 1) := by decide +kernel
theorem dX7_number_16 : decode cX7_number 16 = .ok (.getfield 7, 3) := by decide +kernel
theorem dX7_number_19 : decode cX7_number 19 = .ok (.aload_n 0, 1) := by decide +kernel
theorem dX7_number_20 : decode cX7_number 20 = .ok (.getfield 69, 3) := by decide +kernel
theorem dX7_number_23 : decode cX7_number 23 = .ok (.baload, 1) := by decide +kernel
theorem dX7_number_24 : decode cX7_number 24 = .ok (.i2l, 1) := by decide +kernel
theorem dX7_number_25 : decode cX7_number 25 = .ok (.ldc2_w 72, 3) := by decide +kernel
theorem dX7_number_28 : decode cX7_number 28 = .ok (.ldc2_w 74, 3) := by decide +kernel
theorem dX7_number_31 : decode cX7_number 31 = .ok (.invokestatic 61, 3) := by decide +kernel
theorem dX7_number_34 : decode cX7_number 34 = .ok (.ifCond .eq 46, 3) := by decide +kernel
theorem dX7_number_37 : decode cX7_number 37 = .ok (.iload_n 2, 1) := by decide +kernel
theorem dX7_number_38 : decode cX7_number 38 = .ok (.iconst 2, 1) := by decide +kernel
theorem dX7_number_39 : decode cX7_number 39 = .ok (.if_icmp .ge 23, 3) := by decide +kernel
theorem dX7_number_42 : decode cX7_number 42 = .ok (.bipush 10, 2) := by decide +kernel
theorem dX7_number_44 : decode cX7_number 44 = .ok (.iload_n 1, 1) := by decide +kernel
theorem dX7_number_45 : decode cX7_number 45 = .ok (.imul, 1) := by decide +kernel
theorem dX7_number_46 : decode cX7_number 46 = .ok (.aload_n 0, 1) := by decide +kernel
theorem dX7_number_47 : decode cX7_number 47 = .ok (.getfield 7, 3) := by decide +kernel
theorem dX7_number_50 : decode cX7_number 50 = .ok (.aload_n 0, 1) := by decide +kernel
theorem dX7_number_51 : decode cX7_number 51 = .ok (.getfield 69, 3) := by decide +kernel
theorem dX7_number_54 : decode cX7_number 54 = .ok (.baload, 1) := by decide +kernel
theorem dX7_number_55 : decode cX7_number 55 = .ok (.iadd, 1) := by decide +kernel
theorem dX7_number_56 : decode cX7_number 56 = .ok (.bipush 48, 2) := by decide +kernel
theorem dX7_number_58 : decode cX7_number 58 = .ok (.isub, 1) := by decide +kernel
theorem dX7_number_59 : decode cX7_number 59 = .ok (.goto 4, 3) := by decide +kernel
theorem dX7_number_62 : decode cX7_number 62 = .ok (.iload_n 1, 1) := by decide +kernel
theorem dX7_number_63 : decode cX7_number 63 = .ok (.istore_n 1, 1) := by decide +kernel
theorem dX7_number_64 : decode cX7_number 64 = .ok (.iinc 2 1, 3) := by decide +kernel
theorem dX7_number_67 : decode cX7_number 67 = .ok (.aload_n 0, 1) := by decide +kernel
theorem dX7_number_68 : decode cX7_number 68 = .ok (.dup, 1) := by decide +kernel
theorem dX7_number_69 : decode cX7_number 69 = .ok (.getfield 69, 3) := by decide +kernel
theorem dX7_number_72 : decode cX7_number 72 = .ok (.iconst 1, 1) := by decide +kernel
theorem dX7_number_73 : decode cX7_number 73 = .ok (.iadd, 1) := by decide +kernel
theorem dX7_number_74 : decode cX7_number 74 = .ok (.putfield 69, 3) := by decide +kernel
theorem dX7_number_77 : decode cX7_number 77 = .ok (.goto (-73), 3) := by decide +kernel
theorem dX7_number_80 : decode cX7_number 80 = .ok (.iload_n 2, 1) := by decide +kernel
theorem dX7_number_81 : decode cX7_number 81 = .ok (.i2l, 1) := by decide +kernel
theorem dX7_number_82 : decode cX7_number 82 = .ok (.lconst 1, 1) := by decide +kernel
theorem dX7_number_83 : decode cX7_number 83 = .ok (.ldc2_w 76, 3) := by decide +kernel
theorem dX7_number_86 : decode cX7_number 86 = .ok (.invokestatic 61, 3) := by decide +kernel
theorem dX7_number_89 : decode cX7_number 89 = .ok (.ifCond .eq 7, 3) := by decide +kernel
theorem dX7_number_92 : decode cX7_number 92 = .ok (.iload_n 1, 1) := by decide +kernel
theorem dX7_number_93 : decode cX7_number 93 = .ok (.goto 4, 3) := by decide +kernel
theorem dX7_number_96 : decode cX7_number 96 = .ok (.iconst (-1), 1) := by decide +kernel
theorem dX7_number_97 : decode cX7_number 97 = .ok (.ireturn, 1) := by decide +kernel
theorem dX7_numbers_0 : decode cX7_numbers 0 = .ok (.iload_n 0, 1) := by decide +kernel
theorem dX7_numbers_1 : decode cX7_numbers 1 = .ok (.bipush 100, 2) := by decide +kernel
theorem dX7_numbers_3 : decode cX7_numbers 3 = .ok (.if_icmp .eq 15, 3) := by decide +kernel
theorem dX7_numbers_6 : decode cX7_numbers 6 = .ok (.iload_n 0, 1) := by decide +kernel
theorem dX7_numbers_7 : decode cX7_numbers 7 = .ok (.bipush 108, 2) := by decide +kernel
theorem dX7_numbers_9 : decode cX7_numbers 9 = .ok (.if_icmp .eq 9, 3) := by decide +kernel
theorem dX7_numbers_12 : decode cX7_numbers 12 = .ok (.iload_n 0, 1) := by decide +kernel
theorem dX7_numbers_13 : decode cX7_numbers 13 = .ok (.bipush 103, 2) := by decide +kernel
theorem dX7_numbers_15 : decode cX7_numbers 15 = .ok (.if_icmp .ne 7, 3) := by decide +kernel
theorem dX7_numbers_18 : decode cX7_numbers 18 = .ok (.iconst 3, 1) := by decide +kernel
theorem dX7_numbers_19 : decode cX7_numbers 19 = .ok (.goto 42, 3) := by decide +kernel
theorem dX7_numbers_22 : decode cX7_numbers 22 = .ok (.iload_n 0, 1) := by decide +kernel
theorem dX7_numbers_23 : decode cX7_numbers 23 = .ok (.bipush 112, 2) := by decide +kernel
theorem dX7_numbers_25 : decode cX7_numbers 25 = .ok (.if_icmp .eq 9, 3) := by decide +kernel
theorem dX7_numbers_28 : decode cX7_numbers 28 = .ok (.iload_n 0, 1) := by decide +kernel
theorem dX7_numbers_29 : decode cX7_numbers 29 = .ok (.bipush 117, 2) := by decide +kernel
theorem dX7_numbers_31 : decode cX7_numbers 31 = .ok (.if_icmp .ne 7, 3) := by decide +kernel
theorem dX7_numbers_34 : decode cX7_numbers 34 = .ok (.iconst 2, 1) := by decide +kernel
theorem dX7_numbers_35 : decode cX7_numbers 35 = .ok (.goto 26, 3) := by decide +kernel
theorem dX7_numbers_38 : decode cX7_numbers 38 = .ok (.iload_n 0, 1) := by decide +kernel
theorem dX7_numbers_39 : decode cX7_numbers 39 = .ok (.bipush 114, 2) := by decide +kernel
theorem dX7_numbers_41 : decode cX7_numbers 41 = .ok (.if_icmp .eq 15, 3) := by decide +kernel
theorem dX7_numbers_44 : decode cX7_numbers 44 = .ok (.iload_n 0, 1) := by decide +kernel
theorem dX7_numbers_45 : decode cX7_numbers 45 = .ok (.bipush 119, 2) := by decide +kernel
theorem dX7_numbers_47 : decode cX7_numbers 47 = .ok (.if_icmp .eq 9, 3) := by decide +kernel
theorem dX7_numbers_50 : decode cX7_numbers 50 = .ok (.iload_n 0, 1) := by decide +kernel
theorem dX7_numbers_51 : decode cX7_numbers 51 = .ok (.bipush 111, 2) := by decide +kernel
theorem dX7_numbers_53 : decode cX7_numbers 53 = .ok (.if_icmp .ne 7, 3) := by decide +kernel
theorem dX7_numbers_56 : decode cX7_numbers 56 = .ok (.iconst 1, 1) := by decide +kernel
theorem dX7_numbers_57 : decode cX7_numbers 57 = .ok (.goto 4, 3) := by decide +kernel
theorem dX7_numbers_60 : decode cX7_numbers 60 = .ok (.iconst 0, 1) := by decide +kernel
theorem dX7_numbers_61 : decode cX7_numbers 61 = .ok (.ireturn, 1) := by decide +kernel
set_option maxRecDepth 20000 in
theorem ggX7_isItem_X7_numbers : GoodIn wsX7_isItem wsX7_numbers := goodIn_r _ [8] (by decide +kernel) (by decide +kernel)
set_option maxRecDepth 20000 in
theorem gX7_isItem_X7_numbers : GoodIn wsX7_isItem (va_wsS RX7 78 yX7_numbers wsX7_numbers) := goodIn_app (goodIn_of _ (by decide +kernel)) ggX7_isItem_X7_numbers
set_option maxRecDepth 20000 in
theorem ggX7_isItem_X7_number : GoodIn wsX7_isItem wsX7_number := goodIn_r _ [12, 2, 3, 1, 13, 14, 15, 16, 17, 7, 18, 41, 42, 43, 44, 45, 46, 47, 48, 49, 50, 51, 52, 53, 54, 55, 56, 57, 58, 59] (by decide +kernel) (by decide +kernel)
set_option maxRecDepth 20000 in
theorem gX7_isItem_X7_number : GoodIn wsX7_isItem (wsV RX7 82 RX7 yX7_number wsX7_number) := goodIn_app (goodIn_of _ (by decide +kernel)) ggX7_isItem_X7_number
set_option maxRecDepth 20000 in
theorem ggX7_isItem_X7_isGood : GoodIn wsX7_isItem wsX7_isGood := goodIn_r _ [22, 4, 23, 15, 24, 25, 26, 27, 28, 29, 30, 16, 17, 7, 18, 31, 32, 33, 34, 35, 36, 37, 38, 39, 40, 41, 42, 43, 44, 45, 46, 47, 48, 49, 50, 51, 52, 53, 54, 55, 56, 57, 58, 59] (by decide +kernel) (by decide +kernel)
set_option maxRecDepth 20000 in
theorem gX7_isItem_X7_isGood : GoodIn wsX7_isItem (wsV RX7 86 RX7 yX7_isGood wsX7_isGood) := goodIn_app (goodIn_of _ (by decide +kernel)) ggX7_isItem_X7_isGood
theorem dX7_isItem_0 : decode cX7_isItem 0 = .ok (.aload_n 0, 1) := by decide +kernel
theorem dX7_isItem_1 : decode cX7_isItem 1 = .ok (.getfield 7, 3) := by decide +kernel
theorem dX7_isItem_4 : decode cX7_isItem 4 = .ok (.aload_n 0, 1) := by decide +kernel
theorem dX7_isItem_5 : decode cX7_isItem 5 = .ok (.getfield 69, 3) := by decide +kernel
theorem dX7_isItem_8 : decode cX7_isItem 8 = .ok (.baload, 1) := by decide +kernel
theorem dX7_isItem_9 : decode cX7_isItem 9 = .ok (.istore_n 1, 1) := by decide +kernel
theorem dX7_isItem_10 : decode cX7_isItem 10 = .ok (.aload_n 0, 1) := by decide +kernel
theorem dX7_isItem_11 : decode cX7_isItem 11 = .ok (.dup, 1) := by decide +kernel
theorem dX7_isItem_12 : decode cX7_isItem 12 = .ok (.getfield 69, 3) := by decide +kernel
theorem dX7_isItem_15 : decode cX7_isItem 15 = .ok (.iconst 1, 1) := by decide +kernel
theorem dX7_isItem_16 : decode cX7_isItem 16 = .ok (.iadd, 1) := by decide +kernel
theorem dX7_isItem_17 : decode cX7_isItem 17 = .ok (.putfield 69, 3) := by decide +kernel
theorem dX7_isItem_20 : decode cX7_isItem 20 = .ok (.iload_n 1, 1) := by decide +kernel
theorem dX7_isItem_21 : decode cX7_isItem 21 = .ok (.invokestatic 78, 3) := by decide +kernel
theorem dX7_isItem_24 : decode cX7_isItem 24 = .ok (.istore_n 2, 1) := by decide +kernel
theorem dX7_isItem_25 : decode cX7_isItem 25 = .ok (.iload_n 2, 1) := by decide +kernel
theorem dX7_isItem_26 : decode cX7_isItem 26 = .ok (.ifCond .le 7, 3) := by decide +kernel
theorem dX7_isItem_29 : decode cX7_isItem 29 = .ok (.iconst 1, 1) := by decide +kernel
theorem dX7_isItem_30 : decode cX7_isItem 30 = .ok (.goto 4, 3) := by decide +kernel
theorem dX7_isItem_33 : decode cX7_isItem 33 = .ok (.iconst 0, 1) := by decide +kernel
theorem dX7_isItem_34 : decode cX7_isItem 34 = .ok (.istore_n 3, 1) := by decide +kernel
theorem dX7_isItem_35 : decode cX7_isItem 35 = .ok (.iconst 0, 1) := by decide +kernel
theorem dX7_isItem_36 : decode cX7_isItem 36 = .ok (.istore 4, 2) := by decide +kernel
theorem dX7_isItem_38 : decode cX7_isItem 38 = .ok (.iload 4, 2) := by decide +kernel
theorem dX7_isItem_40 : decode cX7_isItem 40 = .ok (.iload_n 2, 1) := by decide +kernel
theorem dX7_isItem_41 : decode cX7_isItem 41 = .ok (.if_icmp .ge 103, 3) := by decide +kernel
theorem dX7_isItem_44 : decode cX7_isItem 44 = .ok (.iload_n 3, 1) := by decide +kernel
theorem dX7_isItem_45 : decode cX7_isItem 45 = .ok (.ifCond .eq 99, 3) := by decide +kernel
theorem dX7_isItem_48 : decode cX7_isItem 48 = .ok (.iload 4, 2) := by decide +kernel
theorem dX7_isItem_50 : decode cX7_isItem 50 = .ok (.ifCond .eq 28, 3) := by decide +kernel
theorem dX7_isItem_53 : decode cX7_isItem 53 = .ok (.aload_n 0, 1) := by decide +kernel
theorem dX7_isItem_54 : decode cX7_isItem 54 = .ok (.getfield 69, 3) := by decide +kernel
theorem dX7_isItem_57 : decode cX7_isItem 57 = .ok (.aload_n 0, 1) := by decide +kernel
theorem dX7_isItem_58 : decode cX7_isItem 58 = .ok (.getfield 65, 3) := by decide +kernel
theorem dX7_isItem_61 : decode cX7_isItem 61 = .ok (.if_icmp .ge 21, 3) := by decide +kernel
theorem dX7_isItem_64 : decode cX7_isItem 64 = .ok (.aload_n 0, 1) := by decide +kernel
theorem dX7_isItem_65 : decode cX7_isItem 65 = .ok (.getfield 7, 3) := by decide +kernel
theorem dX7_isItem_68 : decode cX7_isItem 68 = .ok (.aload_n 0, 1) := by decide +kernel
theorem dX7_isItem_69 : decode cX7_isItem 69 = .ok (.getfield 69, 3) := by decide +kernel
theorem dX7_isItem_72 : decode cX7_isItem 72 = .ok (.baload, 1) := by decide +kernel
theorem dX7_isItem_73 : decode cX7_isItem 73 = .ok (.bipush 44, 2) := by decide +kernel
theorem dX7_isItem_75 : decode cX7_isItem 75 = .ok (.if_icmp .ne 7, 3) := by decide +kernel
theorem dX7_isItem_78 : decode cX7_isItem 78 = .ok (.iconst 1, 1) := by decide +kernel
theorem dX7_isItem_79 : decode cX7_isItem 79 = .ok (.goto 4, 3) := by decide +kernel
theorem dX7_isItem_82 : decode cX7_isItem 82 = .ok (.iconst 0, 1) := by decide +kernel
theorem dX7_isItem_83 : decode cX7_isItem 83 = .ok (.istore_n 3, 1) := by decide +kernel
theorem dX7_isItem_84 : decode cX7_isItem 84 = .ok (.aload_n 0, 1) := by decide +kernel
theorem dX7_isItem_85 : decode cX7_isItem 85 = .ok (.dup, 1) := by decide +kernel
theorem dX7_isItem_86 : decode cX7_isItem 86 = .ok (.getfield 69, 3) := by decide +kernel
theorem dX7_isItem_89 : decode cX7_isItem 89 = .ok (.iload 4, 2) := by decide +kernel
theorem dX7_isItem_91 : decode cX7_isItem 91 = .ok (.ifCond .ne 7, 3) := by decide +kernel
theorem dX7_isItem_94 : decode cX7_isItem 94 = .ok (.iconst 0, 1) := by decide +kernel
theorem dX7_isItem_95 : decode cX7_isItem 95 = .ok (.goto 4, 3) := by decide +kernel
theorem dX7_isItem_98 : decode cX7_isItem 98 = .ok (.iconst 1, 1) := by decide +kernel
theorem dX7_isItem_99 : decode cX7_isItem 99 = .ok (.iadd, 1) := by decide +kernel
theorem dX7_isItem_100 : decode cX7_isItem 100 = .ok (.putfield 69, 3) := by decide +kernel
theorem dX7_isItem_103 : decode cX7_isItem 103 = .ok (.aload_n 0, 1) := by decide +kernel
theorem dX7_isItem_104 : decode cX7_isItem 104 = .ok (.getfield 50, 3) := by decide +kernel
theorem dX7_isItem_107 : decode cX7_isItem 107 = .ok (.iload 4, 2) := by decide +kernel
theorem dX7_isItem_109 : decode cX7_isItem 109 = .ok (.iload_n 3, 1) := by decide +kernel
theorem dX7_isItem_110 : decode cX7_isItem 110 = .ok (.ifCond .eq 10, 3) := by decide +kernel
theorem dX7_isItem_113 : decode cX7_isItem 113 = .ok (.aload_n 0, 1) := by decide +kernel
theorem dX7_isItem_114 : decode cX7_isItem 114 = .ok (.invokevirtual 82, 3) := by decide +kernel
theorem dX7_isItem_117 : decode cX7_isItem 117 = .ok (.goto 4, 3) := by decide +kernel
theorem dX7_isItem_120 : decode cX7_isItem 120 = .ok (.iconst (-1), 1) := by decide +kernel
theorem dX7_isItem_121 : decode cX7_isItem 121 = .ok (.iastore, 1) := by decide +kernel
theorem dX7_isItem_122 : decode cX7_isItem 122 = .ok (.aload_n 0, 1) := by decide +kernel
theorem dX7_isItem_123 : decode cX7_isItem 123 = .ok (.getfield 50, 3) := by decide +kernel
theorem dX7_isItem_126 : decode cX7_isItem 126 = .ok (.iload 4, 2) := by decide +kernel
theorem dX7_isItem_128 : decode cX7_isItem 128 = .ok (.iaload, 1) := by decide +kernel
theorem dX7_isItem_129 : decode cX7_isItem 129 = .ok (.ifCond .lt 7, 3) := by decide +kernel
theorem dX7_isItem_132 : decode cX7_isItem 132 = .ok (.iconst 1, 1) := by decide +kernel
theorem dX7_isItem_133 : decode cX7_isItem 133 = .ok (.goto 4, 3) := by decide +kernel
theorem dX7_isItem_136 : decode cX7_isItem 136 = .ok (.iconst 0, 1) := by decide +kernel
theorem dX7_isItem_137 : decode cX7_isItem 137 = .ok (.istore_n 3, 1) := by decide +kernel
theorem dX7_isItem_138 : decode cX7_isItem 138 = .ok (.iinc 4 1, 3) := by decide +kernel
theorem dX7_isItem_141 : decode cX7_isItem 141 = .ok (.goto (-103), 3) := by decide +kernel
theorem dX7_isItem_144 : decode cX7_isItem 144 = .ok (.iload_n 3, 1) := by decide +kernel
theorem dX7_isItem_145 : decode cX7_isItem 145 = .ok (.ifCond .eq 32, 3) := by decide +kernel
theorem dX7_isItem_148 : decode cX7_isItem 148 = .ok (.aload_n 0, 1) := by decide +kernel
theorem dX7_isItem_149 : decode cX7_isItem 149 = .ok (.getfield 69, 3) := by decide +kernel
theorem dX7_isItem_152 : decode cX7_isItem 152 = .ok (.aload_n 0, 1) := by decide +kernel
theorem dX7_isItem_153 : decode cX7_isItem 153 = .ok (.getfield 65, 3) := by decide +kernel
theorem dX7_isItem_156 : decode cX7_isItem 156 = .ok (.if_icmp .ge 21, 3) := by decide +kernel
theorem dX7_isItem_159 : decode cX7_isItem 159 = .ok (.aload_n 0, 1) := by decide +kernel
theorem dX7_isItem_160 : decode cX7_isItem 160 = .ok (.getfield 7, 3) := by decide +kernel
theorem dX7_isItem_163 : decode cX7_isItem 163 = .ok (.aload_n 0, 1) := by decide +kernel
theorem dX7_isItem_164 : decode cX7_isItem 164 = .ok (.getfield 69, 3) := by decide +kernel
theorem dX7_isItem_167 : decode cX7_isItem 167 = .ok (.baload, 1) := by decide +kernel
theorem dX7_isItem_168 : decode cX7_isItem 168 = .ok (.bipush 59, 2) := by decide +kernel
theorem dX7_isItem_170 : decode cX7_isItem 170 = .ok (.if_icmp .ne 7, 3) := by decide +kernel
theorem dX7_isItem_173 : decode cX7_isItem 173 = .ok (.iconst 1, 1) := by decide +kernel
theorem dX7_isItem_174 : decode cX7_isItem 174 = .ok (.goto 4, 3) := by decide +kernel
theorem dX7_isItem_177 : decode cX7_isItem 177 = .ok (.iconst 0, 1) := by decide +kernel
theorem dX7_isItem_178 : decode cX7_isItem 178 = .ok (.istore_n 3, 1) := by decide +kernel
theorem dX7_isItem_179 : decode cX7_isItem 179 = .ok (.aload_n 0, 1) := by decide +kernel
theorem dX7_isItem_180 : decode cX7_isItem 180 = .ok (.dup, 1) := by decide +kernel
theorem dX7_isItem_181 : decode cX7_isItem 181 = .ok (.getfield 69, 3) := by decide +kernel
theorem dX7_isItem_184 : decode cX7_isItem 184 = .ok (.iconst 1, 1) := by decide +kernel
theorem dX7_isItem_185 : decode cX7_isItem 185 = .ok (.iadd, 1) := by decide +kernel
theorem dX7_isItem_186 : decode cX7_isItem 186 = .ok (.putfield 69, 3) := by decide +kernel
theorem dX7_isItem_189 : decode cX7_isItem 189 = .ok (.iload_n 3, 1) := by decide +kernel
theorem dX7_isItem_190 : decode cX7_isItem 190 = .ok (.ifCond .eq 15, 3) := by decide +kernel
theorem dX7_isItem_193 : decode cX7_isItem 193 = .ok (.aload_n 0, 1) := by decide +kernel
theorem dX7_isItem_194 : decode cX7_isItem 194 = .ok (.iload_n 1, 1) := by decide +kernel
theorem dX7_isItem_195 : decode cX7_isItem 195 = .ok (.invokevirtual 86, 3) := by decide +kernel
theorem dX7_isItem_198 : decode cX7_isItem 198 = .ok (.ifCond .eq 7, 3) := by decide +kernel
theorem dX7_isItem_201 : decode cX7_isItem 201 = .ok (.iconst 1, 1) := by decide +kernel
theorem dX7_isItem_202 : decode cX7_isItem 202 = .ok (.goto 4, 3) := by decide +kernel
theorem dX7_isItem_205 : decode cX7_isItem 205 = .ok (.iconst 0, 1) := by decide +kernel
theorem dX7_isItem_206 : decode cX7_isItem 206 = .ok (.ireturn, 1) := by decide +kernel
set_option maxRecDepth 20000 in
theorem ggX7_isGood_X7_in : GoodIn wsX7_isGood wsX7_in := goodIn_r _ [14] (by decide +kernel) (by decide +kernel)
set_option maxRecDepth 20000 in
theorem gX7_isGood_X7_in : GoodIn wsX7_isGood (va_wsS RX7 61 yX7_in wsX7_in) := goodIn_app (goodIn_of _ (by decide +kernel)) ggX7_isGood_X7_in
set_option maxRecDepth 20000 in
theorem ggX7_isGood_X7_isDoorPut : GoodIn wsX7_isGood wsX7_isDoorPut := goodIn_r _ [18, 19, 5, 1, 25, 26, 27, 28, 29, 30, 31, 32, 33, 34, 35, 36, 37, 38, 39, 40, 41, 42, 43] (by decide +kernel) (by decide +kernel)
set_option maxRecDepth 20000 in
theorem gX7_isGood_X7_isDoorPut : GoodIn wsX7_isGood (wsV RX7 92 RX7 yX7_isDoorPut wsX7_isDoorPut) := goodIn_app (goodIn_of _ (by decide +kernel)) ggX7_isGood_X7_isDoorPut
set_option maxRecDepth 20000 in
theorem ggX7_isGood_X7_isLodgerPut : GoodIn wsX7_isGood wsX7_isLodgerPut := goodIn_r _ [23, 24, 7, 1, 25, 26, 27, 28, 29, 30, 31, 32, 33, 34, 35, 36, 37, 38, 39, 40, 41, 42, 43] (by decide +kernel) (by decide +kernel)
set_option maxRecDepth 20000 in
theorem gX7_isGood_X7_isLodgerPut : GoodIn wsX7_isGood (wsV RX7 98 RX7 yX7_isLodgerPut wsX7_isLodgerPut) := goodIn_app (goodIn_of _ (by decide +kernel)) ggX7_isGood_X7_isLodgerPut
theorem dX7_isGood_0 : decode cX7_isGood 0 = .ok (.aload_n 0, 1) := by decide +kernel
theorem dX7_isGood_1 : decode cX7_isGood 1 = .ok (.getfield 50, 3) := by decide +kernel
theorem dX7_isGood_4 : decode cX7_isGood 4 = .ok (.iconst 0, 1) := by decide +kernel
theorem dX7_isGood_5 : decode cX7_isGood 5 = .ok (.iaload, 1) := by decide +kernel
theorem dX7_isGood_6 : decode cX7_isGood 6 = .ok (.istore_n 2, 1) := by decide +kernel
theorem dX7_isGood_7 : decode cX7_isGood 7 = .ok (.aload_n 0, 1) := by decide +kernel
theorem dX7_isGood_8 : decode cX7_isGood 8 = .ok (.getfield 50, 3) := by decide +kernel
theorem dX7_isGood_11 : decode cX7_isGood 11 = .ok (.iconst 1, 1) := by decide +kernel
theorem dX7_isGood_12 : decode cX7_isGood 12 = .ok (.iaload, 1) := by decide +kernel
theorem dX7_isGood_13 : decode cX7_isGood 13 = .ok (.istore_n 3, 1) := by decide +kernel
theorem dX7_isGood_14 : decode cX7_isGood 14 = .ok (.aload_n 0, 1) := by decide +kernel
theorem dX7_isGood_15 : decode cX7_isGood 15 = .ok (.getfield 50, 3) := by decide +kernel
theorem dX7_isGood_18 : decode cX7_isGood 18 = .ok (.iconst 2, 1) := by decide +kernel
theorem dX7_isGood_19 : decode cX7_isGood 19 = .ok (.iaload, 1) := by decide +kernel
theorem dX7_isGood_20 : decode cX7_isGood 20 = .ok (.istore 4, 2) := by decide +kernel
theorem dX7_isGood_22 : decode cX7_isGood 22 = .ok (.iload_n 1, 1) := by decide +kernel
theorem dX7_isGood_23 : decode cX7_isGood 23 = .ok (.tableswitch 344 100 119 #[129, 344, 344, 233, 344, 344, 344, 344, 185, 344, 344, 326, 272, 344, 93, 344, 344, 344, 344, 306], 93) := by decide +kernel
theorem dX7_isGood_116 : decode cX7_isGood 116 = .ok (.aload_n 0, 1) := by decide +kernel
theorem dX7_isGood_117 : decode cX7_isGood 117 = .ok (.getfield 13, 3) := by decide +kernel
theorem dX7_isGood_120 : decode cX7_isGood 120 = .ok (.iconst 5, 1) := by decide +kernel
theorem dX7_isGood_121 : decode cX7_isGood 121 = .ok (.iload_n 2, 1) := by decide +kernel
theorem dX7_isGood_122 : decode cX7_isGood 122 = .ok (.iastore, 1) := by decide +kernel
theorem dX7_isGood_123 : decode cX7_isGood 123 = .ok (.iload_n 2, 1) := by decide +kernel
theorem dX7_isGood_124 : decode cX7_isGood 124 = .ok (.i2l, 1) := by decide +kernel
theorem dX7_isGood_125 : decode cX7_isGood 125 = .ok (.ldc2_w 76, 3) := by decide +kernel
theorem dX7_isGood_128 : decode cX7_isGood 128 = .ok (.ldc2_w 90, 3) := by decide +kernel
theorem dX7_isGood_131 : decode cX7_isGood 131 = .ok (.invokestatic 61, 3) := by decide +kernel
theorem dX7_isGood_134 : decode cX7_isGood 134 = .ok (.ifCond .eq 16, 3) := by decide +kernel
theorem dX7_isGood_137 : decode cX7_isGood 137 = .ok (.aload_n 0, 1) := by decide +kernel
theorem dX7_isGood_138 : decode cX7_isGood 138 = .ok (.getfield 17, 3) := by decide +kernel
theorem dX7_isGood_141 : decode cX7_isGood 141 = .ok (.iconst 1, 1) := by decide +kernel
theorem dX7_isGood_142 : decode cX7_isGood 142 = .ok (.iaload, 1) := by decide +kernel
theorem dX7_isGood_143 : decode cX7_isGood 143 = .ok (.ifCond .ne 7, 3) := by decide +kernel
theorem dX7_isGood_146 : decode cX7_isGood 146 = .ok (.iconst 1, 1) := by decide +kernel
theorem dX7_isGood_147 : decode cX7_isGood 147 = .ok (.goto 4, 3) := by decide +kernel
theorem dX7_isGood_150 : decode cX7_isGood 150 = .ok (.iconst 0, 1) := by decide +kernel
theorem dX7_isGood_151 : decode cX7_isGood 151 = .ok (.ireturn, 1) := by decide +kernel
theorem dX7_isGood_152 : decode cX7_isGood 152 = .ok (.iload_n 2, 1) := by decide +kernel
theorem dX7_isGood_153 : decode cX7_isGood 153 = .ok (.aload_n 0, 1) := by decide +kernel
theorem dX7_isGood_154 : decode cX7_isGood 154 = .ok (.getfield 13, 3) := by decide +kernel
theorem dX7_isGood_157 : decode cX7_isGood 157 = .ok (.iconst 5, 1) := by decide +kernel
theorem dX7_isGood_158 : decode cX7_isGood 158 = .ok (.iaload, 1) := by decide +kernel
theorem dX7_isGood_159 : decode cX7_isGood 159 = .ok (.if_icmp .ge 47, 3) := by decide +kernel
theorem dX7_isGood_162 : decode cX7_isGood 162 = .ok (.iload_n 3, 1) := by decide +kernel
theorem dX7_isGood_163 : decode cX7_isGood 163 = .ok (.aload_n 0, 1) := by decide +kernel
theorem dX7_isGood_164 : decode cX7_isGood 164 = .ok (.getfield 13, 3) := by decide +kernel
theorem dX7_isGood_167 : decode cX7_isGood 167 = .ok (.iconst 5, 1) := by decide +kernel
theorem dX7_isGood_168 : decode cX7_isGood 168 = .ok (.iaload, 1) := by decide +kernel
theorem dX7_isGood_169 : decode cX7_isGood 169 = .ok (.if_icmp .ge 37, 3) := by decide +kernel
theorem dX7_isGood_172 : decode cX7_isGood 172 = .ok (.iload_n 2, 1) := by decide +kernel
theorem dX7_isGood_173 : decode cX7_isGood 173 = .ok (.iload_n 3, 1) := by decide +kernel
theorem dX7_isGood_174 : decode cX7_isGood 174 = .ok (.if_icmp .eq 32, 3) := by decide +kernel
theorem dX7_isGood_177 : decode cX7_isGood 177 = .ok (.iload 4, 2) := by decide +kernel
theorem dX7_isGood_179 : decode cX7_isGood 179 = .ok (.bipush 8, 2) := by decide +kernel
theorem dX7_isGood_181 : decode cX7_isGood 181 = .ok (.if_icmp .ge 25, 3) := by decide +kernel
theorem dX7_isGood_184 : decode cX7_isGood 184 = .ok (.aload_n 0, 1) := by decide +kernel
theorem dX7_isGood_185 : decode cX7_isGood 185 = .ok (.getfield 17, 3) := by decide +kernel
theorem dX7_isGood_188 : decode cX7_isGood 188 = .ok (.iconst 1, 1) := by decide +kernel
theorem dX7_isGood_189 : decode cX7_isGood 189 = .ok (.iaload, 1) := by decide +kernel
theorem dX7_isGood_190 : decode cX7_isGood 190 = .ok (.bipush 8, 2) := by decide +kernel
theorem dX7_isGood_192 : decode cX7_isGood 192 = .ok (.if_icmp .ge 14, 3) := by decide +kernel
theorem dX7_isGood_195 : decode cX7_isGood 195 = .ok (.aload_n 0, 1) := by decide +kernel
theorem dX7_isGood_196 : decode cX7_isGood 196 = .ok (.invokevirtual 92, 3) := by decide +kernel
theorem dX7_isGood_199 : decode cX7_isGood 199 = .ok (.ifCond .eq 7, 3) := by decide +kernel
theorem dX7_isGood_202 : decode cX7_isGood 202 = .ok (.iconst 1, 1) := by decide +kernel
theorem dX7_isGood_203 : decode cX7_isGood 203 = .ok (.goto 4, 3) := by decide +kernel
theorem dX7_isGood_206 : decode cX7_isGood 206 = .ok (.iconst 0, 1) := by decide +kernel
theorem dX7_isGood_207 : decode cX7_isGood 207 = .ok (.ireturn, 1) := by decide +kernel
theorem dX7_isGood_208 : decode cX7_isGood 208 = .ok (.iload_n 2, 1) := by decide +kernel
theorem dX7_isGood_209 : decode cX7_isGood 209 = .ok (.bipush 6, 2) := by decide +kernel
theorem dX7_isGood_211 : decode cX7_isGood 211 = .ok (.if_icmp .ge 43, 3) := by decide +kernel
theorem dX7_isGood_214 : decode cX7_isGood 214 = .ok (.iload_n 3, 1) := by decide +kernel
theorem dX7_isGood_215 : decode cX7_isGood 215 = .ok (.i2l, 1) := by decide +kernel
theorem dX7_isGood_216 : decode cX7_isGood 216 = .ok (.lconst 1, 1) := by decide +kernel
theorem dX7_isGood_217 : decode cX7_isGood 217 = .ok (.ldc2_w 96, 3) := by decide +kernel
theorem dX7_isGood_220 : decode cX7_isGood 220 = .ok (.invokestatic 61, 3) := by decide +kernel
theorem dX7_isGood_223 : decode cX7_isGood 223 = .ok (.ifCond .eq 31, 3) := by decide +kernel
theorem dX7_isGood_226 : decode cX7_isGood 226 = .ok (.iload 4, 2) := by decide +kernel
theorem dX7_isGood_228 : decode cX7_isGood 228 = .ok (.bipush 6, 2) := by decide +kernel
theorem dX7_isGood_230 : decode cX7_isGood 230 = .ok (.if_icmp .ge 24, 3) := by decide +kernel
theorem dX7_isGood_233 : decode cX7_isGood 233 = .ok (.aload_n 0, 1) := by decide +kernel
theorem dX7_isGood_234 : decode cX7_isGood 234 = .ok (.getfield 26, 3) := by decide +kernel
theorem dX7_isGood_237 : decode cX7_isGood 237 = .ok (.iconst 1, 1) := by decide +kernel
theorem dX7_isGood_238 : decode cX7_isGood 238 = .ok (.iaload, 1) := by decide +kernel
theorem dX7_isGood_239 : decode cX7_isGood 239 = .ok (.iconst 4, 1) := by decide +kernel
theorem dX7_isGood_240 : decode cX7_isGood 240 = .ok (.if_icmp .ge 14, 3) := by decide +kernel
theorem dX7_isGood_243 : decode cX7_isGood 243 = .ok (.aload_n 0, 1) := by decide +kernel
theorem dX7_isGood_244 : decode cX7_isGood 244 = .ok (.invokevirtual 98, 3) := by decide +kernel
theorem dX7_isGood_247 : decode cX7_isGood 247 = .ok (.ifCond .eq 7, 3) := by decide +kernel
theorem dX7_isGood_250 : decode cX7_isGood 250 = .ok (.iconst 1, 1) := by decide +kernel
theorem dX7_isGood_251 : decode cX7_isGood 251 = .ok (.goto 4, 3) := by decide +kernel
theorem dX7_isGood_254 : decode cX7_isGood 254 = .ok (.iconst 0, 1) := by decide +kernel
theorem dX7_isGood_255 : decode cX7_isGood 255 = .ok (.ireturn, 1) := by decide +kernel
theorem dX7_isGood_256 : decode cX7_isGood 256 = .ok (.iload_n 2, 1) := by decide +kernel
theorem dX7_isGood_257 : decode cX7_isGood 257 = .ok (.aload_n 0, 1) := by decide +kernel
theorem dX7_isGood_258 : decode cX7_isGood 258 = .ok (.getfield 17, 3) := by decide +kernel
theorem dX7_isGood_261 : decode cX7_isGood 261 = .ok (.iconst 1, 1) := by decide +kernel
theorem dX7_isGood_262 : decode cX7_isGood 262 = .ok (.iaload, 1) := by decide +kernel
theorem dX7_isGood_263 : decode cX7_isGood 263 = .ok (.if_icmp .ge 13, 3) := by decide +kernel
theorem dX7_isGood_266 : decode cX7_isGood 266 = .ok (.iload_n 3, 1) := by decide +kernel
theorem dX7_isGood_267 : decode cX7_isGood 267 = .ok (.aload_n 0, 1) := by decide +kernel
theorem dX7_isGood_268 : decode cX7_isGood 268 = .ok (.getfield 26, 3) := by decide +kernel
theorem dX7_isGood_271 : decode cX7_isGood 271 = .ok (.iconst 1, 1) := by decide +kernel
theorem dX7_isGood_272 : decode cX7_isGood 272 = .ok (.iaload, 1) := by decide +kernel
theorem dX7_isGood_273 : decode cX7_isGood 273 = .ok (.if_icmp .lt 5, 3) := by decide +kernel
theorem dX7_isGood_276 : decode cX7_isGood 276 = .ok (.iconst 0, 1) := by decide +kernel
theorem dX7_isGood_277 : decode cX7_isGood 277 = .ok (.ireturn, 1) := by decide +kernel
theorem dX7_isGood_278 : decode cX7_isGood 278 = .ok (.aload_n 0, 1) := by decide +kernel
theorem dX7_isGood_279 : decode cX7_isGood 279 = .ok (.getfield 32, 3) := by decide +kernel
theorem dX7_isGood_282 : decode cX7_isGood 282 = .ok (.bipush 32, 2) := by decide +kernel
theorem dX7_isGood_284 : decode cX7_isGood 284 = .ok (.iconst 4, 1) := by decide +kernel
theorem dX7_isGood_285 : decode cX7_isGood 285 = .ok (.iload_n 2, 1) := by decide +kernel
theorem dX7_isGood_286 : decode cX7_isGood 286 = .ok (.imul, 1) := by decide +kernel
theorem dX7_isGood_287 : decode cX7_isGood 287 = .ok (.iadd, 1) := by decide +kernel
theorem dX7_isGood_288 : decode cX7_isGood 288 = .ok (.iload_n 3, 1) := by decide +kernel
theorem dX7_isGood_289 : decode cX7_isGood 289 = .ok (.iadd, 1) := by decide +kernel
theorem dX7_isGood_290 : decode cX7_isGood 290 = .ok (.iload 4, 2) := by decide +kernel
theorem dX7_isGood_292 : decode cX7_isGood 292 = .ok (.iastore, 1) := by decide +kernel
theorem dX7_isGood_293 : decode cX7_isGood 293 = .ok (.iconst 1, 1) := by decide +kernel
theorem dX7_isGood_294 : decode cX7_isGood 294 = .ok (.ireturn, 1) := by decide +kernel
theorem dX7_isGood_295 : decode cX7_isGood 295 = .ok (.aload_n 0, 1) := by decide +kernel
theorem dX7_isGood_296 : decode cX7_isGood 296 = .ok (.getfield 13, 3) := by decide +kernel
theorem dX7_isGood_299 : decode cX7_isGood 299 = .ok (.bipush 6, 2) := by decide +kernel
theorem dX7_isGood_301 : decode cX7_isGood 301 = .ok (.iload_n 2, 1) := by decide +kernel
theorem dX7_isGood_302 : decode cX7_isGood 302 = .ok (.iastore, 1) := by decide +kernel
theorem dX7_isGood_303 : decode cX7_isGood 303 = .ok (.aload_n 0, 1) := by decide +kernel
theorem dX7_isGood_304 : decode cX7_isGood 304 = .ok (.getfield 13, 3) := by decide +kernel
theorem dX7_isGood_307 : decode cX7_isGood 307 = .ok (.bipush 7, 2) := by decide +kernel
theorem dX7_isGood_309 : decode cX7_isGood 309 = .ok (.iload_n 3, 1) := by decide +kernel
theorem dX7_isGood_310 : decode cX7_isGood 310 = .ok (.iastore, 1) := by decide +kernel
theorem dX7_isGood_311 : decode cX7_isGood 311 = .ok (.iload_n 2, 1) := by decide +kernel
theorem dX7_isGood_312 : decode cX7_isGood 312 = .ok (.bipush 11, 2) := by decide +kernel
theorem dX7_isGood_314 : decode cX7_isGood 314 = .ok (.if_icmp .ge 13, 3) := by decide +kernel
theorem dX7_isGood_317 : decode cX7_isGood 317 = .ok (.iload_n 3, 1) := by decide +kernel
theorem dX7_isGood_318 : decode cX7_isGood 318 = .ok (.bipush 10, 2) := by decide +kernel
theorem dX7_isGood_320 : decode cX7_isGood 320 = .ok (.if_icmp .ge 7, 3) := by decide +kernel
theorem dX7_isGood_323 : decode cX7_isGood 323 = .ok (.iconst 1, 1) := by decide +kernel
theorem dX7_isGood_324 : decode cX7_isGood 324 = .ok (.goto 4, 3) := by decide +kernel
theorem dX7_isGood_327 : decode cX7_isGood 327 = .ok (.iconst 0, 1) := by decide +kernel
theorem dX7_isGood_328 : decode cX7_isGood 328 = .ok (.ireturn, 1) := by decide +kernel
theorem dX7_isGood_329 : decode cX7_isGood 329 = .ok (.aload_n 0, 1) := by decide +kernel
theorem dX7_isGood_330 : decode cX7_isGood 330 = .ok (.getfield 13, 3) := by decide +kernel
theorem dX7_isGood_333 : decode cX7_isGood 333 = .ok (.bipush 8, 2) := by decide +kernel
theorem dX7_isGood_335 : decode cX7_isGood 335 = .ok (.iload_n 2, 1) := by decide +kernel
theorem dX7_isGood_336 : decode cX7_isGood 336 = .ok (.iastore, 1) := by decide +kernel
theorem dX7_isGood_337 : decode cX7_isGood 337 = .ok (.iload_n 2, 1) := by decide +kernel
theorem dX7_isGood_338 : decode cX7_isGood 338 = .ok (.bipush 10, 2) := by decide +kernel
theorem dX7_isGood_340 : decode cX7_isGood 340 = .ok (.if_icmp .ge 7, 3) := by decide +kernel
theorem dX7_isGood_343 : decode cX7_isGood 343 = .ok (.iconst 1, 1) := by decide +kernel
theorem dX7_isGood_344 : decode cX7_isGood 344 = .ok (.goto 4, 3) := by decide +kernel
theorem dX7_isGood_347 : decode cX7_isGood 347 = .ok (.iconst 0, 1) := by decide +kernel
theorem dX7_isGood_348 : decode cX7_isGood 348 = .ok (.ireturn, 1) := by decide +kernel
theorem dX7_isGood_349 : decode cX7_isGood 349 = .ok (.aload_n 0, 1) := by decide +kernel
theorem dX7_isGood_350 : decode cX7_isGood 350 = .ok (.getfield 13, 3) := by decide +kernel
theorem dX7_isGood_353 : decode cX7_isGood 353 = .ok (.bipush 9, 2) := by decide +kernel
theorem dX7_isGood_355 : decode cX7_isGood 355 = .ok (.iload_n 2, 1) := by decide +kernel
theorem dX7_isGood_356 : decode cX7_isGood 356 = .ok (.iastore, 1) := by decide +kernel
theorem dX7_isGood_357 : decode cX7_isGood 357 = .ok (.iload_n 2, 1) := by decide +kernel
theorem dX7_isGood_358 : decode cX7_isGood 358 = .ok (.i2l, 1) := by decide +kernel
theorem dX7_isGood_359 : decode cX7_isGood 359 = .ok (.lconst 1, 1) := by decide +kernel
theorem dX7_isGood_360 : decode cX7_isGood 360 = .ok (.ldc2_w 101, 3) := by decide +kernel
theorem dX7_isGood_363 : decode cX7_isGood 363 = .ok (.invokestatic 61, 3) := by decide +kernel
theorem dX7_isGood_366 : decode cX7_isGood 366 = .ok (.ireturn, 1) := by decide +kernel
theorem dX7_isGood_367 : decode cX7_isGood 367 = .ok (.iload_n 2, 1) := by decide +kernel
theorem dX7_isGood_368 : decode cX7_isGood 368 = .ok (.aload_n 0, 1) := by decide +kernel
theorem dX7_isGood_369 : decode cX7_isGood 369 = .ok (.getfield 17, 3) := by decide +kernel
theorem dX7_isGood_372 : decode cX7_isGood 372 = .ok (.iconst 1, 1) := by decide +kernel
theorem dX7_isGood_373 : decode cX7_isGood 373 = .ok (.iaload, 1) := by decide +kernel
theorem dX7_isGood_374 : decode cX7_isGood 374 = .ok (.if_icmp .ge 9, 3) := by decide +kernel
theorem dX7_isGood_377 : decode cX7_isGood 377 = .ok (.iload_n 3, 1) := by decide +kernel
theorem dX7_isGood_378 : decode cX7_isGood 378 = .ok (.bipush 20, 2) := by decide +kernel
theorem dX7_isGood_380 : decode cX7_isGood 380 = .ok (.if_icmp .le 5, 3) := by decide +kernel
theorem dX7_isGood_383 : decode cX7_isGood 383 = .ok (.iconst 0, 1) := by decide +kernel
theorem dX7_isGood_384 : decode cX7_isGood 384 = .ok (.ireturn, 1) := by decide +kernel
theorem dX7_isGood_385 : decode cX7_isGood 385 = .ok (.aload_n 0, 1) := by decide +kernel
theorem dX7_isGood_386 : decode cX7_isGood 386 = .ok (.getfield 23, 3) := by decide +kernel
theorem dX7_isGood_389 : decode cX7_isGood 389 = .ok (.bipush 8, 2) := by decide +kernel
theorem dX7_isGood_391 : decode cX7_isGood 391 = .ok (.iload_n 2, 1) := by decide +kernel
theorem dX7_isGood_392 : decode cX7_isGood 392 = .ok (.iadd, 1) := by decide +kernel
theorem dX7_isGood_393 : decode cX7_isGood 393 = .ok (.iload_n 3, 1) := by decide +kernel
theorem dX7_isGood_394 : decode cX7_isGood 394 = .ok (.iastore, 1) := by decide +kernel
theorem dX7_isGood_395 : decode cX7_isGood 395 = .ok (.iconst 1, 1) := by decide +kernel
theorem dX7_isGood_396 : decode cX7_isGood 396 = .ok (.ireturn, 1) := by decide +kernel
theorem dX7_isDoorPut_0 : decode cX7_isDoorPut 0 = .ok (.iconst 0, 1) := by decide +kernel
theorem dX7_isDoorPut_1 : decode cX7_isDoorPut 1 = .ok (.istore_n 1, 1) := by decide +kernel
theorem dX7_isDoorPut_2 : decode cX7_isDoorPut 2 = .ok (.iload_n 1, 1) := by decide +kernel
theorem dX7_isDoorPut_3 : decode cX7_isDoorPut 3 = .ok (.iconst 3, 1) := by decide +kernel
theorem dX7_isDoorPut_4 : decode cX7_isDoorPut 4 = .ok (.if_icmp .ge 33, 3) := by decide +kernel
theorem dX7_isDoorPut_7 : decode cX7_isDoorPut 7 = .ok (.aload_n 0, 1) := by decide +kernel
theorem dX7_isDoorPut_8 : decode cX7_isDoorPut 8 = .ok (.getfield 20, 3) := by decide +kernel
theorem dX7_isDoorPut_11 : decode cX7_isDoorPut 11 = .ok (.bipush 24, 2) := by decide +kernel
theorem dX7_isDoorPut_13 : decode cX7_isDoorPut 13 = .ok (.iconst 3, 1) := by decide +kernel
theorem dX7_isDoorPut_14 : decode cX7_isDoorPut 14 = .ok (.aload_n 0, 1) := by decide +kernel
theorem dX7_isDoorPut_15 : decode cX7_isDoorPut 15 = .ok (.getfield 17, 3) := by decide +kernel
theorem dX7_isDoorPut_18 : decode cX7_isDoorPut 18 = .ok (.iconst 1, 1) := by decide +kernel
theorem dX7_isDoorPut_19 : decode cX7_isDoorPut 19 = .ok (.iaload, 1) := by decide +kernel
theorem dX7_isDoorPut_20 : decode cX7_isDoorPut 20 = .ok (.imul, 1) := by decide +kernel
theorem dX7_isDoorPut_21 : decode cX7_isDoorPut 21 = .ok (.iadd, 1) := by decide +kernel
theorem dX7_isDoorPut_22 : decode cX7_isDoorPut 22 = .ok (.iload_n 1, 1) := by decide +kernel
theorem dX7_isDoorPut_23 : decode cX7_isDoorPut 23 = .ok (.iadd, 1) := by decide +kernel
theorem dX7_isDoorPut_24 : decode cX7_isDoorPut 24 = .ok (.aload_n 0, 1) := by decide +kernel
theorem dX7_isDoorPut_25 : decode cX7_isDoorPut 25 = .ok (.getfield 50, 3) := by decide +kernel
theorem dX7_isDoorPut_28 : decode cX7_isDoorPut 28 = .ok (.iload_n 1, 1) := by decide +kernel
theorem dX7_isDoorPut_29 : decode cX7_isDoorPut 29 = .ok (.iaload, 1) := by decide +kernel
theorem dX7_isDoorPut_30 : decode cX7_isDoorPut 30 = .ok (.iastore, 1) := by decide +kernel
theorem dX7_isDoorPut_31 : decode cX7_isDoorPut 31 = .ok (.iinc 1 1, 3) := by decide +kernel
theorem dX7_isDoorPut_34 : decode cX7_isDoorPut 34 = .ok (.goto (-32), 3) := by decide +kernel
theorem dX7_isDoorPut_37 : decode cX7_isDoorPut 37 = .ok (.aload_n 0, 1) := by decide +kernel
theorem dX7_isDoorPut_38 : decode cX7_isDoorPut 38 = .ok (.getfield 17, 3) := by decide +kernel
theorem dX7_isDoorPut_41 : decode cX7_isDoorPut 41 = .ok (.iconst 1, 1) := by decide +kernel
theorem dX7_isDoorPut_42 : decode cX7_isDoorPut 42 = .ok (.dup2, 1) := by decide +kernel
theorem dX7_isDoorPut_43 : decode cX7_isDoorPut 43 = .ok (.iaload, 1) := by decide +kernel
theorem dX7_isDoorPut_44 : decode cX7_isDoorPut 44 = .ok (.iconst 1, 1) := by decide +kernel
theorem dX7_isDoorPut_45 : decode cX7_isDoorPut 45 = .ok (.iadd, 1) := by decide +kernel
theorem dX7_isDoorPut_46 : decode cX7_isDoorPut 46 = .ok (.iastore, 1) := by decide +kernel
theorem dX7_isDoorPut_47 : decode cX7_isDoorPut 47 = .ok (.iconst 1, 1) := by decide +kernel
theorem dX7_isDoorPut_48 : decode cX7_isDoorPut 48 = .ok (.ireturn, 1) := by decide +kernel
theorem dX7_isLodgerPut_0 : decode cX7_isLodgerPut 0 = .ok (.iconst 0, 1) := by decide +kernel
theorem dX7_isLodgerPut_1 : decode cX7_isLodgerPut 1 = .ok (.istore_n 1, 1) := by decide +kernel
theorem dX7_isLodgerPut_2 : decode cX7_isLodgerPut 2 = .ok (.iload_n 1, 1) := by decide +kernel
theorem dX7_isLodgerPut_3 : decode cX7_isLodgerPut 3 = .ok (.iconst 3, 1) := by decide +kernel
theorem dX7_isLodgerPut_4 : decode cX7_isLodgerPut 4 = .ok (.if_icmp .ge 33, 3) := by decide +kernel
theorem dX7_isLodgerPut_7 : decode cX7_isLodgerPut 7 = .ok (.aload_n 0, 1) := by decide +kernel
theorem dX7_isLodgerPut_8 : decode cX7_isLodgerPut 8 = .ok (.getfield 29, 3) := by decide +kernel
theorem dX7_isLodgerPut_11 : decode cX7_isLodgerPut 11 = .ok (.bipush 12, 2) := by decide +kernel
theorem dX7_isLodgerPut_13 : decode cX7_isLodgerPut 13 = .ok (.iconst 3, 1) := by decide +kernel
theorem dX7_isLodgerPut_14 : decode cX7_isLodgerPut 14 = .ok (.aload_n 0, 1) := by decide +kernel
theorem dX7_isLodgerPut_15 : decode cX7_isLodgerPut 15 = .ok (.getfield 26, 3) := by decide +kernel
theorem dX7_isLodgerPut_18 : decode cX7_isLodgerPut 18 = .ok (.iconst 1, 1) := by decide +kernel
theorem dX7_isLodgerPut_19 : decode cX7_isLodgerPut 19 = .ok (.iaload, 1) := by decide +kernel
theorem dX7_isLodgerPut_20 : decode cX7_isLodgerPut 20 = .ok (.imul, 1) := by decide +kernel
theorem dX7_isLodgerPut_21 : decode cX7_isLodgerPut 21 = .ok (.iadd, 1) := by decide +kernel
theorem dX7_isLodgerPut_22 : decode cX7_isLodgerPut 22 = .ok (.iload_n 1, 1) := by decide +kernel
theorem dX7_isLodgerPut_23 : decode cX7_isLodgerPut 23 = .ok (.iadd, 1) := by decide +kernel
theorem dX7_isLodgerPut_24 : decode cX7_isLodgerPut 24 = .ok (.aload_n 0, 1) := by decide +kernel
theorem dX7_isLodgerPut_25 : decode cX7_isLodgerPut 25 = .ok (.getfield 50, 3) := by decide +kernel
theorem dX7_isLodgerPut_28 : decode cX7_isLodgerPut 28 = .ok (.iload_n 1, 1) := by decide +kernel
theorem dX7_isLodgerPut_29 : decode cX7_isLodgerPut 29 = .ok (.iaload, 1) := by decide +kernel
theorem dX7_isLodgerPut_30 : decode cX7_isLodgerPut 30 = .ok (.iastore, 1) := by decide +kernel
theorem dX7_isLodgerPut_31 : decode cX7_isLodgerPut 31 = .ok (.iinc 1 1, 3) := by decide +kernel
theorem dX7_isLodgerPut_34 : decode cX7_isLodgerPut 34 = .ok (.goto (-32), 3) := by decide +kernel
theorem dX7_isLodgerPut_37 : decode cX7_isLodgerPut 37 = .ok (.aload_n 0, 1) := by decide +kernel
theorem dX7_isLodgerPut_38 : decode cX7_isLodgerPut 38 = .ok (.getfield 26, 3) := by decide +kernel
theorem dX7_isLodgerPut_41 : decode cX7_isLodgerPut 41 = .ok (.iconst 1, 1) := by decide +kernel
theorem dX7_isLodgerPut_42 : decode cX7_isLodgerPut 42 = .ok (.dup2, 1) := by decide +kernel
theorem dX7_isLodgerPut_43 : decode cX7_isLodgerPut 43 = .ok (.iaload, 1) := by decide +kernel
theorem dX7_isLodgerPut_44 : decode cX7_isLodgerPut 44 = .ok (.iconst 1, 1) := by decide +kernel
theorem dX7_isLodgerPut_45 : decode cX7_isLodgerPut 45 = .ok (.iadd, 1) := by decide +kernel
theorem dX7_isLodgerPut_46 : decode cX7_isLodgerPut 46 = .ok (.iastore, 1) := by decide +kernel
theorem dX7_isLodgerPut_47 : decode cX7_isLodgerPut 47 = .ok (.iconst 1, 1) := by decide +kernel
theorem dX7_isLodgerPut_48 : decode cX7_isLodgerPut 48 = .ok (.ireturn, 1) := by decide +kernel
theorem dX7_begins_0 : decode cX7_begins 0 = .ok (.aload_n 0, 1) := by decide +kernel
theorem dX7_begins_1 : decode cX7_begins 1 = .ok (.getfield 13, 3) := by decide +kernel
theorem dX7_begins_4 : decode cX7_begins 4 = .ok (.iconst 5, 1) := by decide +kernel
theorem dX7_begins_5 : decode cX7_begins 5 = .ok (.iconst 3, 1) := by decide +kernel
theorem dX7_begins_6 : decode cX7_begins 6 = .ok (.iastore, 1) := by decide +kernel
theorem dX7_begins_7 : decode cX7_begins 7 = .ok (.aload_n 0, 1) := by decide +kernel
theorem dX7_begins_8 : decode cX7_begins 8 = .ok (.getfield 13, 3) := by decide +kernel
theorem dX7_begins_11 : decode cX7_begins 11 = .ok (.bipush 6, 2) := by decide +kernel
theorem dX7_begins_13 : decode cX7_begins 13 = .ok (.iconst 3, 1) := by decide +kernel
theorem dX7_begins_14 : decode cX7_begins 14 = .ok (.iastore, 1) := by decide +kernel
theorem dX7_begins_15 : decode cX7_begins 15 = .ok (.aload_n 0, 1) := by decide +kernel
theorem dX7_begins_16 : decode cX7_begins 16 = .ok (.getfield 13, 3) := by decide +kernel
theorem dX7_begins_19 : decode cX7_begins 19 = .ok (.bipush 7, 2) := by decide +kernel
theorem dX7_begins_21 : decode cX7_begins 21 = .ok (.iconst 1, 1) := by decide +kernel
theorem dX7_begins_22 : decode cX7_begins 22 = .ok (.iastore, 1) := by decide +kernel
theorem dX7_begins_23 : decode cX7_begins 23 = .ok (.aload_n 0, 1) := by decide +kernel
theorem dX7_begins_24 : decode cX7_begins 24 = .ok (.getfield 13, 3) := by decide +kernel
theorem dX7_begins_27 : decode cX7_begins 27 = .ok (.bipush 8, 2) := by decide +kernel
theorem dX7_begins_29 : decode cX7_begins 29 = .ok (.iconst 1, 1) := by decide +kernel
theorem dX7_begins_30 : decode cX7_begins 30 = .ok (.iastore, 1) := by decide +kernel
theorem dX7_begins_31 : decode cX7_begins 31 = .ok (.aload_n 0, 1) := by decide +kernel
theorem dX7_begins_32 : decode cX7_begins 32 = .ok (.getfield 13, 3) := by decide +kernel
theorem dX7_begins_35 : decode cX7_begins 35 = .ok (.bipush 9, 2) := by decide +kernel
theorem dX7_begins_37 : decode cX7_begins 37 = .ok (.iconst 2, 1) := by decide +kernel
theorem dX7_begins_38 : decode cX7_begins 38 = .ok (.iastore, 1) := by decide +kernel
theorem dX7_begins_39 : decode cX7_begins 39 = .ok (.aload_n 0, 1) := by decide +kernel
theorem dX7_begins_40 : decode cX7_begins 40 = .ok (.getfield 17, 3) := by decide +kernel
theorem dX7_begins_43 : decode cX7_begins 43 = .ok (.iconst 1, 1) := by decide +kernel
theorem dX7_begins_44 : decode cX7_begins 44 = .ok (.iconst 0, 1) := by decide +kernel
theorem dX7_begins_45 : decode cX7_begins 45 = .ok (.iastore, 1) := by decide +kernel
theorem dX7_begins_46 : decode cX7_begins 46 = .ok (.aload_n 0, 1) := by decide +kernel
theorem dX7_begins_47 : decode cX7_begins 47 = .ok (.getfield 26, 3) := by decide +kernel
theorem dX7_begins_50 : decode cX7_begins 50 = .ok (.iconst 1, 1) := by decide +kernel
theorem dX7_begins_51 : decode cX7_begins 51 = .ok (.iconst 0, 1) := by decide +kernel
theorem dX7_begins_52 : decode cX7_begins 52 = .ok (.iastore, 1) := by decide +kernel
theorem dX7_begins_53 : decode cX7_begins 53 = .ok (.iconst 0, 1) := by decide +kernel
theorem dX7_begins_54 : decode cX7_begins 54 = .ok (.istore_n 1, 1) := by decide +kernel
theorem dX7_begins_55 : decode cX7_begins 55 = .ok (.iload_n 1, 1) := by decide +kernel
theorem dX7_begins_56 : decode cX7_begins 56 = .ok (.bipush 32, 2) := by decide +kernel
theorem dX7_begins_58 : decode cX7_begins 58 = .ok (.if_icmp .ge 35, 3) := by decide +kernel
theorem dX7_begins_61 : decode cX7_begins 61 = .ok (.aload_n 0, 1) := by decide +kernel
theorem dX7_begins_62 : decode cX7_begins 62 = .ok (.getfield 32, 3) := by decide +kernel
theorem dX7_begins_65 : decode cX7_begins 65 = .ok (.bipush 32, 2) := by decide +kernel
theorem dX7_begins_67 : decode cX7_begins 67 = .ok (.iload_n 1, 1) := by decide +kernel
theorem dX7_begins_68 : decode cX7_begins 68 = .ok (.iadd, 1) := by decide +kernel
theorem dX7_begins_69 : decode cX7_begins 69 = .ok (.iconst 0, 1) := by decide +kernel
theorem dX7_begins_70 : decode cX7_begins 70 = .ok (.iastore, 1) := by decide +kernel
theorem dX7_begins_71 : decode cX7_begins 71 = .ok (.iload_n 1, 1) := by decide +kernel
theorem dX7_begins_72 : decode cX7_begins 72 = .ok (.bipush 8, 2) := by decide +kernel
theorem dX7_begins_74 : decode cX7_begins 74 = .ok (.if_icmp .ge 13, 3) := by decide +kernel
theorem dX7_begins_77 : decode cX7_begins 77 = .ok (.aload_n 0, 1) := by decide +kernel
theorem dX7_begins_78 : decode cX7_begins 78 = .ok (.getfield 23, 3) := by decide +kernel
theorem dX7_begins_81 : decode cX7_begins 81 = .ok (.bipush 8, 2) := by decide +kernel
theorem dX7_begins_83 : decode cX7_begins 83 = .ok (.iload_n 1, 1) := by decide +kernel
theorem dX7_begins_84 : decode cX7_begins 84 = .ok (.iadd, 1) := by decide +kernel
theorem dX7_begins_85 : decode cX7_begins 85 = .ok (.iconst 0, 1) := by decide +kernel
theorem dX7_begins_86 : decode cX7_begins 86 = .ok (.iastore, 1) := by decide +kernel
theorem dX7_begins_87 : decode cX7_begins 87 = .ok (.iinc 1 1, 3) := by decide +kernel
theorem dX7_begins_90 : decode cX7_begins 90 = .ok (.goto (-35), 3) := by decide +kernel
theorem dX7_begins_93 : decode cX7_begins 93 = .ok (.return_, 1) := by decide +kernel
theorem dX7_takes_0 : decode cX7_takes 0 = .ok (.aload_n 0, 1) := by decide +kernel
theorem dX7_takes_1 : decode cX7_takes 1 = .ok (.getfield 17, 3) := by decide +kernel
theorem dX7_takes_4 : decode cX7_takes 4 = .ok (.iconst 0, 1) := by decide +kernel
theorem dX7_takes_5 : decode cX7_takes 5 = .ok (.aload_n 0, 1) := by decide +kernel
theorem dX7_takes_6 : decode cX7_takes 6 = .ok (.getfield 17, 3) := by decide +kernel
theorem dX7_takes_9 : decode cX7_takes 9 = .ok (.iconst 1, 1) := by decide +kernel
theorem dX7_takes_10 : decode cX7_takes 10 = .ok (.iaload, 1) := by decide +kernel
theorem dX7_takes_11 : decode cX7_takes 11 = .ok (.iastore, 1) := by decide +kernel
theorem dX7_takes_12 : decode cX7_takes 12 = .ok (.aload_n 0, 1) := by decide +kernel
theorem dX7_takes_13 : decode cX7_takes 13 = .ok (.getfield 26, 3) := by decide +kernel
theorem dX7_takes_16 : decode cX7_takes 16 = .ok (.iconst 0, 1) := by decide +kernel
theorem dX7_takes_17 : decode cX7_takes 17 = .ok (.aload_n 0, 1) := by decide +kernel
theorem dX7_takes_18 : decode cX7_takes 18 = .ok (.getfield 26, 3) := by decide +kernel
theorem dX7_takes_21 : decode cX7_takes 21 = .ok (.iconst 1, 1) := by decide +kernel
theorem dX7_takes_22 : decode cX7_takes 22 = .ok (.iaload, 1) := by decide +kernel
theorem dX7_takes_23 : decode cX7_takes 23 = .ok (.iastore, 1) := by decide +kernel
theorem dX7_takes_24 : decode cX7_takes 24 = .ok (.iconst 0, 1) := by decide +kernel
theorem dX7_takes_25 : decode cX7_takes 25 = .ok (.istore_n 1, 1) := by decide +kernel
theorem dX7_takes_26 : decode cX7_takes 26 = .ok (.iload_n 1, 1) := by decide +kernel
theorem dX7_takes_27 : decode cX7_takes 27 = .ok (.bipush 32, 2) := by decide +kernel
theorem dX7_takes_29 : decode cX7_takes 29 = .ok (.if_icmp .ge 106, 3) := by decide +kernel
theorem dX7_takes_32 : decode cX7_takes 32 = .ok (.aload_n 0, 1) := by decide +kernel
theorem dX7_takes_33 : decode cX7_takes 33 = .ok (.getfield 32, 3) := by decide +kernel
theorem dX7_takes_36 : decode cX7_takes 36 = .ok (.iload_n 1, 1) := by decide +kernel
theorem dX7_takes_37 : decode cX7_takes 37 = .ok (.aload_n 0, 1) := by decide +kernel
theorem dX7_takes_38 : decode cX7_takes 38 = .ok (.getfield 32, 3) := by decide +kernel
theorem dX7_takes_41 : decode cX7_takes 41 = .ok (.bipush 32, 2) := by decide +kernel
theorem dX7_takes_43 : decode cX7_takes 43 = .ok (.iload_n 1, 1) := by decide +kernel
theorem dX7_takes_44 : decode cX7_takes 44 = .ok (.iadd, 1) := by decide +kernel
theorem dX7_takes_45 : decode cX7_takes 45 = .ok (.iaload, 1) := by decide +kernel
theorem dX7_takes_46 : decode cX7_takes 46 = .ok (.iastore, 1) := by decide +kernel
theorem dX7_takes_47 : decode cX7_takes 47 = .ok (.iload_n 1, 1) := by decide +kernel
theorem dX7_takes_48 : decode cX7_takes 48 = .ok (.bipush 24, 2) := by decide +kernel
theorem dX7_takes_50 : decode cX7_takes 50 = .ok (.if_icmp .ge 18, 3) := by decide +kernel
theorem dX7_takes_53 : decode cX7_takes 53 = .ok (.aload_n 0, 1) := by decide +kernel
theorem dX7_takes_54 : decode cX7_takes 54 = .ok (.getfield 20, 3) := by decide +kernel
theorem dX7_takes_57 : decode cX7_takes 57 = .ok (.iload_n 1, 1) := by decide +kernel
theorem dX7_takes_58 : decode cX7_takes 58 = .ok (.aload_n 0, 1) := by decide +kernel
theorem dX7_takes_59 : decode cX7_takes 59 = .ok (.getfield 20, 3) := by decide +kernel
theorem dX7_takes_62 : decode cX7_takes 62 = .ok (.bipush 24, 2) := by decide +kernel
theorem dX7_takes_64 : decode cX7_takes 64 = .ok (.iload_n 1, 1) := by decide +kernel
theorem dX7_takes_65 : decode cX7_takes 65 = .ok (.iadd, 1) := by decide +kernel
theorem dX7_takes_66 : decode cX7_takes 66 = .ok (.iaload, 1) := by decide +kernel
theorem dX7_takes_67 : decode cX7_takes 67 = .ok (.iastore, 1) := by decide +kernel
theorem dX7_takes_68 : decode cX7_takes 68 = .ok (.iload_n 1, 1) := by decide +kernel
theorem dX7_takes_69 : decode cX7_takes 69 = .ok (.bipush 12, 2) := by decide +kernel
theorem dX7_takes_71 : decode cX7_takes 71 = .ok (.if_icmp .ge 18, 3) := by decide +kernel
theorem dX7_takes_74 : decode cX7_takes 74 = .ok (.aload_n 0, 1) := by decide +kernel
theorem dX7_takes_75 : decode cX7_takes 75 = .ok (.getfield 29, 3) := by decide +kernel
theorem dX7_takes_78 : decode cX7_takes 78 = .ok (.iload_n 1, 1) := by decide +kernel
theorem dX7_takes_79 : decode cX7_takes 79 = .ok (.aload_n 0, 1) := by decide +kernel
theorem dX7_takes_80 : decode cX7_takes 80 = .ok (.getfield 29, 3) := by decide +kernel
theorem dX7_takes_83 : decode cX7_takes 83 = .ok (.bipush 12, 2) := by decide +kernel
theorem dX7_takes_85 : decode cX7_takes 85 = .ok (.iload_n 1, 1) := by decide +kernel
theorem dX7_takes_86 : decode cX7_takes 86 = .ok (.iadd, 1) := by decide +kernel
theorem dX7_takes_87 : decode cX7_takes 87 = .ok (.iaload, 1) := by decide +kernel
theorem dX7_takes_88 : decode cX7_takes 88 = .ok (.iastore, 1) := by decide +kernel
theorem dX7_takes_89 : decode cX7_takes 89 = .ok (.iload_n 1, 1) := by decide +kernel
theorem dX7_takes_90 : decode cX7_takes 90 = .ok (.bipush 8, 2) := by decide +kernel
theorem dX7_takes_92 : decode cX7_takes 92 = .ok (.if_icmp .ge 18, 3) := by decide +kernel
theorem dX7_takes_95 : decode cX7_takes 95 = .ok (.aload_n 0, 1) := by decide +kernel
theorem dX7_takes_96 : decode cX7_takes 96 = .ok (.getfield 23, 3) := by decide +kernel
theorem dX7_takes_99 : decode cX7_takes 99 = .ok (.iload_n 1, 1) := by decide +kernel
theorem dX7_takes_100 : decode cX7_takes 100 = .ok (.aload_n 0, 1) := by decide +kernel
theorem dX7_takes_101 : decode cX7_takes 101 = .ok (.getfield 23, 3) := by decide +kernel
theorem dX7_takes_104 : decode cX7_takes 104 = .ok (.bipush 8, 2) := by decide +kernel
theorem dX7_takes_106 : decode cX7_takes 106 = .ok (.iload_n 1, 1) := by decide +kernel
theorem dX7_takes_107 : decode cX7_takes 107 = .ok (.iadd, 1) := by decide +kernel
theorem dX7_takes_108 : decode cX7_takes 108 = .ok (.iaload, 1) := by decide +kernel
theorem dX7_takes_109 : decode cX7_takes 109 = .ok (.iastore, 1) := by decide +kernel
theorem dX7_takes_110 : decode cX7_takes 110 = .ok (.iload_n 1, 1) := by decide +kernel
theorem dX7_takes_111 : decode cX7_takes 111 = .ok (.iconst 5, 1) := by decide +kernel
theorem dX7_takes_112 : decode cX7_takes 112 = .ok (.if_icmp .ge 17, 3) := by decide +kernel
theorem dX7_takes_115 : decode cX7_takes 115 = .ok (.aload_n 0, 1) := by decide +kernel
theorem dX7_takes_116 : decode cX7_takes 116 = .ok (.getfield 13, 3) := by decide +kernel
theorem dX7_takes_119 : decode cX7_takes 119 = .ok (.iload_n 1, 1) := by decide +kernel
theorem dX7_takes_120 : decode cX7_takes 120 = .ok (.aload_n 0, 1) := by decide +kernel
theorem dX7_takes_121 : decode cX7_takes 121 = .ok (.getfield 13, 3) := by decide +kernel
theorem dX7_takes_124 : decode cX7_takes 124 = .ok (.iconst 5, 1) := by decide +kernel
theorem dX7_takes_125 : decode cX7_takes 125 = .ok (.iload_n 1, 1) := by decide +kernel
theorem dX7_takes_126 : decode cX7_takes 126 = .ok (.iadd, 1) := by decide +kernel
theorem dX7_takes_127 : decode cX7_takes 127 = .ok (.iaload, 1) := by decide +kernel
theorem dX7_takes_128 : decode cX7_takes 128 = .ok (.iastore, 1) := by decide +kernel
theorem dX7_takes_129 : decode cX7_takes 129 = .ok (.iinc 1 1, 3) := by decide +kernel
theorem dX7_takes_132 : decode cX7_takes 132 = .ok (.goto (-106), 3) := by decide +kernel
theorem dX7_takes_135 : decode cX7_takes 135 = .ok (.iconst 0, 1) := by decide +kernel
theorem dX7_takes_136 : decode cX7_takes 136 = .ok (.istore_n 1, 1) := by decide +kernel
theorem dX7_takes_137 : decode cX7_takes 137 = .ok (.iload_n 1, 1) := by decide +kernel
theorem dX7_takes_138 : decode cX7_takes 138 = .ok (.bipush 46, 2) := by decide +kernel
theorem dX7_takes_140 : decode cX7_takes 140 = .ok (.if_icmp .ge 31, 3) := by decide +kernel
theorem dX7_takes_143 : decode cX7_takes 143 = .ok (.aload_n 0, 1) := by decide +kernel
theorem dX7_takes_144 : decode cX7_takes 144 = .ok (.getfield 35, 3) := by decide +kernel
theorem dX7_takes_147 : decode cX7_takes 147 = .ok (.iload_n 1, 1) := by decide +kernel
theorem dX7_takes_148 : decode cX7_takes 148 = .ok (.iload_n 1, 1) := by decide +kernel
theorem dX7_takes_149 : decode cX7_takes 149 = .ok (.bipush 32, 2) := by decide +kernel
theorem dX7_takes_151 : decode cX7_takes 151 = .ok (.if_icmp .ge 12, 3) := by decide +kernel
theorem dX7_takes_154 : decode cX7_takes 154 = .ok (.aload_n 0, 1) := by decide +kernel
theorem dX7_takes_155 : decode cX7_takes 155 = .ok (.getfield 32, 3) := by decide +kernel
theorem dX7_takes_158 : decode cX7_takes 158 = .ok (.iload_n 1, 1) := by decide +kernel
theorem dX7_takes_159 : decode cX7_takes 159 = .ok (.iaload, 1) := by decide +kernel
theorem dX7_takes_160 : decode cX7_takes 160 = .ok (.goto 4, 3) := by decide +kernel
theorem dX7_takes_163 : decode cX7_takes 163 = .ok (.iconst 0, 1) := by decide +kernel
theorem dX7_takes_164 : decode cX7_takes 164 = .ok (.iastore, 1) := by decide +kernel
theorem dX7_takes_165 : decode cX7_takes 165 = .ok (.iinc 1 1, 3) := by decide +kernel
theorem dX7_takes_168 : decode cX7_takes 168 = .ok (.goto (-31), 3) := by decide +kernel
theorem dX7_takes_171 : decode cX7_takes 171 = .ok (.iconst 0, 1) := by decide +kernel
theorem dX7_takes_172 : decode cX7_takes 172 = .ok (.istore_n 1, 1) := by decide +kernel
theorem dX7_takes_173 : decode cX7_takes 173 = .ok (.iload_n 1, 1) := by decide +kernel
theorem dX7_takes_174 : decode cX7_takes 174 = .ok (.aload_n 0, 1) := by decide +kernel
theorem dX7_takes_175 : decode cX7_takes 175 = .ok (.getfield 26, 3) := by decide +kernel
theorem dX7_takes_178 : decode cX7_takes 178 = .ok (.iconst 0, 1) := by decide +kernel
theorem dX7_takes_179 : decode cX7_takes 179 = .ok (.iaload, 1) := by decide +kernel
theorem dX7_takes_180 : decode cX7_takes 180 = .ok (.if_icmp .ge 26, 3) := by decide +kernel
theorem dX7_takes_183 : decode cX7_takes 183 = .ok (.aload_n 0, 1) := by decide +kernel
theorem dX7_takes_184 : decode cX7_takes 184 = .ok (.getfield 35, 3) := by decide +kernel
theorem dX7_takes_187 : decode cX7_takes 187 = .ok (.bipush 40, 2) := by decide +kernel
theorem dX7_takes_189 : decode cX7_takes 189 = .ok (.iload_n 1, 1) := by decide +kernel
theorem dX7_takes_190 : decode cX7_takes 190 = .ok (.iadd, 1) := by decide +kernel
theorem dX7_takes_191 : decode cX7_takes 191 = .ok (.aload_n 0, 1) := by decide +kernel
theorem dX7_takes_192 : decode cX7_takes 192 = .ok (.getfield 29, 3) := by decide +kernel
theorem dX7_takes_195 : decode cX7_takes 195 = .ok (.iconst 3, 1) := by decide +kernel
theorem dX7_takes_196 : decode cX7_takes 196 = .ok (.iload_n 1, 1) := by decide +kernel
theorem dX7_takes_197 : decode cX7_takes 197 = .ok (.imul, 1) := by decide +kernel
theorem dX7_takes_198 : decode cX7_takes 198 = .ok (.iaload, 1) := by decide +kernel
theorem dX7_takes_199 : decode cX7_takes 199 = .ok (.iastore, 1) := by decide +kernel
theorem dX7_takes_200 : decode cX7_takes 200 = .ok (.iinc 1 1, 3) := by decide +kernel
theorem dX7_takes_203 : decode cX7_takes 203 = .ok (.goto (-30), 3) := by decide +kernel
theorem dX7_takes_206 : decode cX7_takes 206 = .ok (.aload_n 0, 1) := by decide +kernel
theorem dX7_takes_207 : decode cX7_takes 207 = .ok (.iconst 0, 1) := by decide +kernel
theorem dX7_takes_208 : decode cX7_takes 208 = .ok (.putfield 103, 3) := by decide +kernel
theorem dX7_takes_211 : decode cX7_takes 211 = .ok (.aload_n 0, 1) := by decide +kernel
theorem dX7_takes_212 : decode cX7_takes 212 = .ok (.iconst 0, 1) := by decide +kernel
theorem dX7_takes_213 : decode cX7_takes 213 = .ok (.putfield 106, 3) := by decide +kernel
theorem dX7_takes_216 : decode cX7_takes 216 = .ok (.return_, 1) := by decide +kernel
set_option maxRecDepth 20000 in
theorem ggX7_fault_X7_begins : GoodIn wsX7_fault wsX7_begins := goodIn_r _ [7, 8, 9, 10, 11, 12, 49, 50, 51, 52, 53, 54, 55, 56, 57, 58, 59, 60, 61, 62, 63, 64, 65, 66, 67] (by decide +kernel) (by decide +kernel)
set_option maxRecDepth 20000 in
theorem gX7_fault_X7_begins : GoodIn wsX7_fault (wsV RX7 53 RX7 yX7_begins wsX7_begins) := goodIn_app (goodIn_of _ (by decide +kernel)) ggX7_fault_X7_begins
set_option maxRecDepth 20000 in
theorem ggX7_fault_X7_isItem : GoodIn wsX7_fault wsX7_isItem := goodIn_r _ [16, 17, 1, 2, 18, 19, 20, 6, 21, 22, 23, 24, 25, 26, 27, 28, 29, 30, 31, 32, 33, 34, 35, 8, 36, 9, 37, 10, 11, 38, 12, 39, 40, 41, 42, 43, 44, 45, 46, 47, 48, 49, 50, 51, 52, 53, 54, 55, 56, 57, 58, 59, 60, 61, 62, 63, 64, 65, 66, 67] (by decide +kernel) (by decide +kernel)
set_option maxRecDepth 20000 in
theorem gX7_fault_X7_isItem : GoodIn wsX7_fault (wsV RX7 109 RX7 yX7_isItem wsX7_isItem) := goodIn_app (goodIn_of _ (by decide +kernel)) ggX7_fault_X7_isItem
theorem dX7_fault_0 : decode cX7_fault 0 = .ok (.aload_n 0, 1) := by decide +kernel
theorem dX7_fault_1 : decode cX7_fault 1 = .ok (.iconst 0, 1) := by decide +kernel
theorem dX7_fault_2 : decode cX7_fault 2 = .ok (.putfield 69, 3) := by decide +kernel
theorem dX7_fault_5 : decode cX7_fault 5 = .ok (.aload_n 0, 1) := by decide +kernel
theorem dX7_fault_6 : decode cX7_fault 6 = .ok (.invokevirtual 53, 3) := by decide +kernel
theorem dX7_fault_9 : decode cX7_fault 9 = .ok (.aload_n 0, 1) := by decide +kernel
theorem dX7_fault_10 : decode cX7_fault 10 = .ok (.getfield 69, 3) := by decide +kernel
theorem dX7_fault_13 : decode cX7_fault 13 = .ok (.aload_n 0, 1) := by decide +kernel
theorem dX7_fault_14 : decode cX7_fault 14 = .ok (.getfield 65, 3) := by decide +kernel
theorem dX7_fault_17 : decode cX7_fault 17 = .ok (.if_icmp .ge 20, 3) := by decide +kernel
theorem dX7_fault_20 : decode cX7_fault 20 = .ok (.aload_n 0, 1) := by decide +kernel
theorem dX7_fault_21 : decode cX7_fault 21 = .ok (.getfield 69, 3) := by decide +kernel
theorem dX7_fault_24 : decode cX7_fault 24 = .ok (.istore_n 1, 1) := by decide +kernel
theorem dX7_fault_25 : decode cX7_fault 25 = .ok (.aload_n 0, 1) := by decide +kernel
theorem dX7_fault_26 : decode cX7_fault 26 = .ok (.invokevirtual 109, 3) := by decide +kernel
theorem dX7_fault_29 : decode cX7_fault 29 = .ok (.ifCond .ne 5, 3) := by decide +kernel
theorem dX7_fault_32 : decode cX7_fault 32 = .ok (.iload_n 1, 1) := by decide +kernel
theorem dX7_fault_33 : decode cX7_fault 33 = .ok (.ireturn, 1) := by decide +kernel
theorem dX7_fault_34 : decode cX7_fault 34 = .ok (.goto (-25), 3) := by decide +kernel
theorem dX7_fault_37 : decode cX7_fault 37 = .ok (.bipush (-4), 2) := by decide +kernel
theorem dX7_fault_39 : decode cX7_fault 39 = .ok (.ireturn, 1) := by decide +kernel
theorem dX7_isWhole_0 : decode cX7_isWhole 0 = .ok (.aload_n 0, 1) := by decide +kernel
theorem dX7_isWhole_1 : decode cX7_isWhole 1 = .ok (.getfield 17, 3) := by decide +kernel
theorem dX7_isWhole_4 : decode cX7_isWhole 4 = .ok (.iconst 1, 1) := by decide +kernel
theorem dX7_isWhole_5 : decode cX7_isWhole 5 = .ok (.iaload, 1) := by decide +kernel
theorem dX7_isWhole_6 : decode cX7_isWhole 6 = .ok (.ifCond .le 16, 3) := by decide +kernel
theorem dX7_isWhole_9 : decode cX7_isWhole 9 = .ok (.aload_n 0, 1) := by decide +kernel
theorem dX7_isWhole_10 : decode cX7_isWhole 10 = .ok (.getfield 26, 3) := by decide +kernel
theorem dX7_isWhole_13 : decode cX7_isWhole 13 = .ok (.iconst 1, 1) := by decide +kernel
theorem dX7_isWhole_14 : decode cX7_isWhole 14 = .ok (.iaload, 1) := by decide +kernel
theorem dX7_isWhole_15 : decode cX7_isWhole 15 = .ok (.ifCond .le 7, 3) := by decide +kernel
theorem dX7_isWhole_18 : decode cX7_isWhole 18 = .ok (.iconst 1, 1) := by decide +kernel
theorem dX7_isWhole_19 : decode cX7_isWhole 19 = .ok (.goto 4, 3) := by decide +kernel
theorem dX7_isWhole_22 : decode cX7_isWhole 22 = .ok (.iconst 0, 1) := by decide +kernel
theorem dX7_isWhole_23 : decode cX7_isWhole 23 = .ok (.istore_n 1, 1) := by decide +kernel
theorem dX7_isWhole_24 : decode cX7_isWhole 24 = .ok (.iconst 0, 1) := by decide +kernel
theorem dX7_isWhole_25 : decode cX7_isWhole 25 = .ok (.istore_n 2, 1) := by decide +kernel
theorem dX7_isWhole_26 : decode cX7_isWhole 26 = .ok (.iload_n 2, 1) := by decide +kernel
theorem dX7_isWhole_27 : decode cX7_isWhole 27 = .ok (.aload_n 0, 1) := by decide +kernel
theorem dX7_isWhole_28 : decode cX7_isWhole 28 = .ok (.getfield 17, 3) := by decide +kernel
theorem dX7_isWhole_31 : decode cX7_isWhole 31 = .ok (.iconst 1, 1) := by decide +kernel
theorem dX7_isWhole_32 : decode cX7_isWhole 32 = .ok (.iaload, 1) := by decide +kernel
theorem dX7_isWhole_33 : decode cX7_isWhole 33 = .ok (.if_icmp .ge 79, 3) := by decide +kernel
theorem dX7_isWhole_36 : decode cX7_isWhole 36 = .ok (.iload_n 1, 1) := by decide +kernel
theorem dX7_isWhole_37 : decode cX7_isWhole 37 = .ok (.ifCond .eq 67, 3) := by decide +kernel
theorem dX7_isWhole_40 : decode cX7_isWhole 40 = .ok (.aload_n 0, 1) := by decide +kernel
theorem dX7_isWhole_41 : decode cX7_isWhole 41 = .ok (.getfield 20, 3) := by decide +kernel
theorem dX7_isWhole_44 : decode cX7_isWhole 44 = .ok (.bipush 24, 2) := by decide +kernel
theorem dX7_isWhole_46 : decode cX7_isWhole 46 = .ok (.iconst 3, 1) := by decide +kernel
theorem dX7_isWhole_47 : decode cX7_isWhole 47 = .ok (.iload_n 2, 1) := by decide +kernel
theorem dX7_isWhole_48 : decode cX7_isWhole 48 = .ok (.imul, 1) := by decide +kernel
theorem dX7_isWhole_49 : decode cX7_isWhole 49 = .ok (.iadd, 1) := by decide +kernel
theorem dX7_isWhole_50 : decode cX7_isWhole 50 = .ok (.iaload, 1) := by decide +kernel
theorem dX7_isWhole_51 : decode cX7_isWhole 51 = .ok (.aload_n 0, 1) := by decide +kernel
theorem dX7_isWhole_52 : decode cX7_isWhole 52 = .ok (.getfield 13, 3) := by decide +kernel
theorem dX7_isWhole_55 : decode cX7_isWhole 55 = .ok (.iconst 5, 1) := by decide +kernel
theorem dX7_isWhole_56 : decode cX7_isWhole 56 = .ok (.iaload, 1) := by decide +kernel
theorem dX7_isWhole_57 : decode cX7_isWhole 57 = .ok (.if_icmp .ge 47, 3) := by decide +kernel
theorem dX7_isWhole_60 : decode cX7_isWhole 60 = .ok (.aload_n 0, 1) := by decide +kernel
theorem dX7_isWhole_61 : decode cX7_isWhole 61 = .ok (.getfield 20, 3) := by decide +kernel
theorem dX7_isWhole_64 : decode cX7_isWhole 64 = .ok (.bipush 25, 2) := by decide +kernel
theorem dX7_isWhole_66 : decode cX7_isWhole 66 = .ok (.iconst 3, 1) := by decide +kernel
theorem dX7_isWhole_67 : decode cX7_isWhole 67 = .ok (.iload_n 2, 1) := by decide +kernel
theorem dX7_isWhole_68 : decode cX7_isWhole 68 = .ok (.imul, 1) := by decide +kernel
theorem dX7_isWhole_69 : decode cX7_isWhole 69 = .ok (.iadd, 1) := by decide +kernel
theorem dX7_isWhole_70 : decode cX7_isWhole 70 = .ok (.iaload, 1) := by decide +kernel
theorem dX7_isWhole_71 : decode cX7_isWhole 71 = .ok (.aload_n 0, 1) := by decide +kernel
theorem dX7_isWhole_72 : decode cX7_isWhole 72 = .ok (.getfield 13, 3) := by decide +kernel
theorem dX7_isWhole_75 : decode cX7_isWhole 75 = .ok (.iconst 5, 1) := by decide +kernel
theorem dX7_isWhole_76 : decode cX7_isWhole 76 = .ok (.iaload, 1) := by decide +kernel
theorem dX7_isWhole_77 : decode cX7_isWhole 77 = .ok (.if_icmp .ge 27, 3) := by decide +kernel
theorem dX7_isWhole_80 : decode cX7_isWhole 80 = .ok (.aload_n 0, 1) := by decide +kernel
theorem dX7_isWhole_81 : decode cX7_isWhole 81 = .ok (.getfield 20, 3) := by decide +kernel
theorem dX7_isWhole_84 : decode cX7_isWhole 84 = .ok (.bipush 26, 2) := by decide +kernel
theorem dX7_isWhole_86 : decode cX7_isWhole 86 = .ok (.iconst 3, 1) := by decide +kernel
theorem dX7_isWhole_87 : decode cX7_isWhole 87 = .ok (.iload_n 2, 1) := by decide +kernel
theorem dX7_isWhole_88 : decode cX7_isWhole 88 = .ok (.imul, 1) := by decide +kernel
theorem dX7_isWhole_89 : decode cX7_isWhole 89 = .ok (.iadd, 1) := by decide +kernel
theorem dX7_isWhole_90 : decode cX7_isWhole 90 = .ok (.iaload, 1) := by decide +kernel
theorem dX7_isWhole_91 : decode cX7_isWhole 91 = .ok (.aload_n 0, 1) := by decide +kernel
theorem dX7_isWhole_92 : decode cX7_isWhole 92 = .ok (.getfield 17, 3) := by decide +kernel
theorem dX7_isWhole_95 : decode cX7_isWhole 95 = .ok (.iconst 1, 1) := by decide +kernel
theorem dX7_isWhole_96 : decode cX7_isWhole 96 = .ok (.iaload, 1) := by decide +kernel
theorem dX7_isWhole_97 : decode cX7_isWhole 97 = .ok (.if_icmp .ge 7, 3) := by decide +kernel
theorem dX7_isWhole_100 : decode cX7_isWhole 100 = .ok (.iconst 1, 1) := by decide +kernel
theorem dX7_isWhole_101 : decode cX7_isWhole 101 = .ok (.goto 4, 3) := by decide +kernel
theorem dX7_isWhole_104 : decode cX7_isWhole 104 = .ok (.iconst 0, 1) := by decide +kernel
theorem dX7_isWhole_105 : decode cX7_isWhole 105 = .ok (.istore_n 1, 1) := by decide +kernel
theorem dX7_isWhole_106 : decode cX7_isWhole 106 = .ok (.iinc 2 1, 3) := by decide +kernel
theorem dX7_isWhole_109 : decode cX7_isWhole 109 = .ok (.goto (-83), 3) := by decide +kernel
theorem dX7_isWhole_112 : decode cX7_isWhole 112 = .ok (.iconst 0, 1) := by decide +kernel
theorem dX7_isWhole_113 : decode cX7_isWhole 113 = .ok (.istore_n 2, 1) := by decide +kernel
theorem dX7_isWhole_114 : decode cX7_isWhole 114 = .ok (.iload_n 2, 1) := by decide +kernel
theorem dX7_isWhole_115 : decode cX7_isWhole 115 = .ok (.aload_n 0, 1) := by decide +kernel
theorem dX7_isWhole_116 : decode cX7_isWhole 116 = .ok (.getfield 26, 3) := by decide +kernel
theorem dX7_isWhole_119 : decode cX7_isWhole 119 = .ok (.iconst 1, 1) := by decide +kernel
theorem dX7_isWhole_120 : decode cX7_isWhole 120 = .ok (.iaload, 1) := by decide +kernel
theorem dX7_isWhole_121 : decode cX7_isWhole 121 = .ok (.if_icmp .ge 59, 3) := by decide +kernel
theorem dX7_isWhole_124 : decode cX7_isWhole 124 = .ok (.iload_n 1, 1) := by decide +kernel
theorem dX7_isWhole_125 : decode cX7_isWhole 125 = .ok (.ifCond .eq 47, 3) := by decide +kernel
theorem dX7_isWhole_128 : decode cX7_isWhole 128 = .ok (.aload_n 0, 1) := by decide +kernel
theorem dX7_isWhole_129 : decode cX7_isWhole 129 = .ok (.getfield 29, 3) := by decide +kernel
theorem dX7_isWhole_132 : decode cX7_isWhole 132 = .ok (.bipush 12, 2) := by decide +kernel
theorem dX7_isWhole_134 : decode cX7_isWhole 134 = .ok (.iconst 3, 1) := by decide +kernel
theorem dX7_isWhole_135 : decode cX7_isWhole 135 = .ok (.iload_n 2, 1) := by decide +kernel
theorem dX7_isWhole_136 : decode cX7_isWhole 136 = .ok (.imul, 1) := by decide +kernel
theorem dX7_isWhole_137 : decode cX7_isWhole 137 = .ok (.iadd, 1) := by decide +kernel
theorem dX7_isWhole_138 : decode cX7_isWhole 138 = .ok (.iaload, 1) := by decide +kernel
theorem dX7_isWhole_139 : decode cX7_isWhole 139 = .ok (.aload_n 0, 1) := by decide +kernel
theorem dX7_isWhole_140 : decode cX7_isWhole 140 = .ok (.getfield 13, 3) := by decide +kernel
theorem dX7_isWhole_143 : decode cX7_isWhole 143 = .ok (.iconst 5, 1) := by decide +kernel
theorem dX7_isWhole_144 : decode cX7_isWhole 144 = .ok (.iaload, 1) := by decide +kernel
theorem dX7_isWhole_145 : decode cX7_isWhole 145 = .ok (.if_icmp .ge 27, 3) := by decide +kernel
theorem dX7_isWhole_148 : decode cX7_isWhole 148 = .ok (.aload_n 0, 1) := by decide +kernel
theorem dX7_isWhole_149 : decode cX7_isWhole 149 = .ok (.getfield 29, 3) := by decide +kernel
theorem dX7_isWhole_152 : decode cX7_isWhole 152 = .ok (.bipush 14, 2) := by decide +kernel
theorem dX7_isWhole_154 : decode cX7_isWhole 154 = .ok (.iconst 3, 1) := by decide +kernel
theorem dX7_isWhole_155 : decode cX7_isWhole 155 = .ok (.iload_n 2, 1) := by decide +kernel
theorem dX7_isWhole_156 : decode cX7_isWhole 156 = .ok (.imul, 1) := by decide +kernel
theorem dX7_isWhole_157 : decode cX7_isWhole 157 = .ok (.iadd, 1) := by decide +kernel
theorem dX7_isWhole_158 : decode cX7_isWhole 158 = .ok (.iaload, 1) := by decide +kernel
theorem dX7_isWhole_159 : decode cX7_isWhole 159 = .ok (.aload_n 0, 1) := by decide +kernel
theorem dX7_isWhole_160 : decode cX7_isWhole 160 = .ok (.getfield 13, 3) := by decide +kernel
theorem dX7_isWhole_163 : decode cX7_isWhole 163 = .ok (.iconst 5, 1) := by decide +kernel
theorem dX7_isWhole_164 : decode cX7_isWhole 164 = .ok (.iaload, 1) := by decide +kernel
theorem dX7_isWhole_165 : decode cX7_isWhole 165 = .ok (.if_icmp .ge 7, 3) := by decide +kernel
theorem dX7_isWhole_168 : decode cX7_isWhole 168 = .ok (.iconst 1, 1) := by decide +kernel
theorem dX7_isWhole_169 : decode cX7_isWhole 169 = .ok (.goto 4, 3) := by decide +kernel
theorem dX7_isWhole_172 : decode cX7_isWhole 172 = .ok (.iconst 0, 1) := by decide +kernel
theorem dX7_isWhole_173 : decode cX7_isWhole 173 = .ok (.istore_n 1, 1) := by decide +kernel
theorem dX7_isWhole_174 : decode cX7_isWhole 174 = .ok (.iinc 2 1, 3) := by decide +kernel
theorem dX7_isWhole_177 : decode cX7_isWhole 177 = .ok (.goto (-63), 3) := by decide +kernel
theorem dX7_isWhole_180 : decode cX7_isWhole 180 = .ok (.iload_n 1, 1) := by decide +kernel
theorem dX7_isWhole_181 : decode cX7_isWhole 181 = .ok (.ireturn, 1) := by decide +kernel
set_option maxRecDepth 20000 in
theorem ggX7_lay_X7_fault : GoodIn wsX7_lay wsX7_fault := goodIn_r _ [6, 7, 8, 9, 10, 11, 5, 12, 13, 1, 14, 15, 16, 17, 18, 19, 20, 21, 22, 23, 24, 25, 26, 27, 28, 29, 30, 31, 32, 33, 34, 35, 36, 37, 38, 39, 40, 41, 42, 43, 44, 45, 46, 47, 48, 49, 50, 51, 52, 64, 65, 66, 67, 68, 69, 70, 71, 72, 73, 74, 75, 76, 77, 78, 79, 80, 81, 82] (by decide +kernel) (by decide +kernel)
set_option maxRecDepth 20000 in
theorem gX7_lay_X7_fault : GoodIn wsX7_lay (wsV RX7 112 RX7 yX7_fault wsX7_fault) := goodIn_app (goodIn_of _ (by decide +kernel)) ggX7_lay_X7_fault
set_option maxRecDepth 20000 in
theorem ggX7_lay_X7_isWhole : GoodIn wsX7_lay wsX7_isWhole := goodIn_r _ [56, 1, 14, 47, 13, 52, 64, 65, 66, 67, 68, 69, 70, 71, 72, 73, 74, 75, 76, 77, 78, 79, 80, 81, 82] (by decide +kernel) (by decide +kernel)
set_option maxRecDepth 20000 in
theorem gX7_lay_X7_isWhole : GoodIn wsX7_lay (wsV RX7 115 RX7 yX7_isWhole wsX7_isWhole) := goodIn_app (goodIn_of _ (by decide +kernel)) ggX7_lay_X7_isWhole
set_option maxRecDepth 20000 in
theorem ggX7_lay_X7_takes : GoodIn wsX7_lay wsX7_takes := goodIn_r _ [60, 1, 14, 15, 47, 52, 16, 13, 61, 62, 63, 64, 65, 66, 67, 68, 69, 70, 71, 72, 73, 74, 75, 76, 77, 78, 79, 80, 81, 82] (by decide +kernel) (by decide +kernel)
set_option maxRecDepth 20000 in
theorem gX7_lay_X7_takes : GoodIn wsX7_lay (wsV RX7 56 RX7 yX7_takes wsX7_takes) := goodIn_app (goodIn_of _ (by decide +kernel)) ggX7_lay_X7_takes
theorem dX7_lay_0 : decode cX7_lay 0 = .ok (.aload_n 0, 1) := by decide +kernel
theorem dX7_lay_1 : decode cX7_lay 1 = .ok (.invokevirtual 112, 3) := by decide +kernel
theorem dX7_lay_4 : decode cX7_lay 4 = .ok (.bipush (-4), 2) := by decide +kernel
theorem dX7_lay_6 : decode cX7_lay 6 = .ok (.if_icmp .ne 10, 3) := by decide +kernel
theorem dX7_lay_9 : decode cX7_lay 9 = .ok (.aload_n 0, 1) := by decide +kernel
theorem dX7_lay_10 : decode cX7_lay 10 = .ok (.invokevirtual 115, 3) := by decide +kernel
theorem dX7_lay_13 : decode cX7_lay 13 = .ok (.ifCond .ne 6, 3) := by decide +kernel
theorem dX7_lay_16 : decode cX7_lay 16 = .ok (.bipush (-2), 2) := by decide +kernel
theorem dX7_lay_18 : decode cX7_lay 18 = .ok (.ireturn, 1) := by decide +kernel
theorem dX7_lay_19 : decode cX7_lay 19 = .ok (.aload_n 0, 1) := by decide +kernel
theorem dX7_lay_20 : decode cX7_lay 20 = .ok (.invokevirtual 56, 3) := by decide +kernel
theorem dX7_lay_23 : decode cX7_lay 23 = .ok (.aload_n 0, 1) := by decide +kernel
theorem dX7_lay_24 : decode cX7_lay 24 = .ok (.getfield 17, 3) := by decide +kernel
theorem dX7_lay_27 : decode cX7_lay 27 = .ok (.iconst 0, 1) := by decide +kernel
theorem dX7_lay_28 : decode cX7_lay 28 = .ok (.iaload, 1) := by decide +kernel
theorem dX7_lay_29 : decode cX7_lay 29 = .ok (.ireturn, 1) := by decide +kernel
set_option maxRecDepth 20000 in
theorem ggX7_isDoor_X7_in : GoodIn wsX7_isDoor wsX7_in := goodIn_r _ [5] (by decide +kernel) (by decide +kernel)
set_option maxRecDepth 20000 in
theorem gX7_isDoor_X7_in : GoodIn wsX7_isDoor (va_wsS RX7 61 yX7_in wsX7_in) := goodIn_app (goodIn_of _ (by decide +kernel)) ggX7_isDoor_X7_in
theorem dX7_isDoor_0 : decode cX7_isDoor 0 = .ok (.iload_n 1, 1) := by decide +kernel
theorem dX7_isDoor_1 : decode cX7_isDoor 1 = .ok (.i2l, 1) := by decide +kernel
theorem dX7_isDoor_2 : decode cX7_isDoor 2 = .ok (.lconst 0, 1) := by decide +kernel
theorem dX7_isDoor_3 : decode cX7_isDoor 3 = .ok (.aload_n 0, 1) := by decide +kernel
theorem dX7_isDoor_4 : decode cX7_isDoor 4 = .ok (.getfield 17, 3) := by decide +kernel
theorem dX7_isDoor_7 : decode cX7_isDoor 7 = .ok (.iconst 0, 1) := by decide +kernel
theorem dX7_isDoor_8 : decode cX7_isDoor 8 = .ok (.iaload, 1) := by decide +kernel
theorem dX7_isDoor_9 : decode cX7_isDoor 9 = .ok (.iconst 1, 1) := by decide +kernel
theorem dX7_isDoor_10 : decode cX7_isDoor 10 = .ok (.isub, 1) := by decide +kernel
theorem dX7_isDoor_11 : decode cX7_isDoor 11 = .ok (.i2l, 1) := by decide +kernel
theorem dX7_isDoor_12 : decode cX7_isDoor 12 = .ok (.invokestatic 61, 3) := by decide +kernel
theorem dX7_isDoor_15 : decode cX7_isDoor 15 = .ok (.ireturn, 1) := by decide +kernel
set_option maxRecDepth 20000 in
theorem ggX7_isLodger_X7_in : GoodIn wsX7_isLodger wsX7_in := goodIn_r _ [5] (by decide +kernel) (by decide +kernel)
set_option maxRecDepth 20000 in
theorem gX7_isLodger_X7_in : GoodIn wsX7_isLodger (va_wsS RX7 61 yX7_in wsX7_in) := goodIn_app (goodIn_of _ (by decide +kernel)) ggX7_isLodger_X7_in
theorem dX7_isLodger_0 : decode cX7_isLodger 0 = .ok (.iload_n 1, 1) := by decide +kernel
theorem dX7_isLodger_1 : decode cX7_isLodger 1 = .ok (.i2l, 1) := by decide +kernel
theorem dX7_isLodger_2 : decode cX7_isLodger 2 = .ok (.lconst 0, 1) := by decide +kernel
theorem dX7_isLodger_3 : decode cX7_isLodger 3 = .ok (.aload_n 0, 1) := by decide +kernel
theorem dX7_isLodger_4 : decode cX7_isLodger 4 = .ok (.getfield 26, 3) := by decide +kernel
theorem dX7_isLodger_7 : decode cX7_isLodger 7 = .ok (.iconst 0, 1) := by decide +kernel
theorem dX7_isLodger_8 : decode cX7_isLodger 8 = .ok (.iaload, 1) := by decide +kernel
theorem dX7_isLodger_9 : decode cX7_isLodger 9 = .ok (.iconst 1, 1) := by decide +kernel
theorem dX7_isLodger_10 : decode cX7_isLodger 10 = .ok (.isub, 1) := by decide +kernel
theorem dX7_isLodger_11 : decode cX7_isLodger 11 = .ok (.i2l, 1) := by decide +kernel
theorem dX7_isLodger_12 : decode cX7_isLodger 12 = .ok (.invokestatic 61, 3) := by decide +kernel
theorem dX7_isLodger_15 : decode cX7_isLodger 15 = .ok (.ireturn, 1) := by decide +kernel
set_option maxRecDepth 20000 in
theorem ggX7_isRoom_X7_in : GoodIn wsX7_isRoom wsX7_in := goodIn_r _ [5] (by decide +kernel) (by decide +kernel)
set_option maxRecDepth 20000 in
theorem gX7_isRoom_X7_in : GoodIn wsX7_isRoom (va_wsS RX7 61 yX7_in wsX7_in) := goodIn_app (goodIn_of _ (by decide +kernel)) ggX7_isRoom_X7_in
theorem dX7_isRoom_0 : decode cX7_isRoom 0 = .ok (.iload_n 1, 1) := by decide +kernel
theorem dX7_isRoom_1 : decode cX7_isRoom 1 = .ok (.i2l, 1) := by decide +kernel
theorem dX7_isRoom_2 : decode cX7_isRoom 2 = .ok (.lconst 0, 1) := by decide +kernel
theorem dX7_isRoom_3 : decode cX7_isRoom 3 = .ok (.aload_n 0, 1) := by decide +kernel
theorem dX7_isRoom_4 : decode cX7_isRoom 4 = .ok (.getfield 13, 3) := by decide +kernel
theorem dX7_isRoom_7 : decode cX7_isRoom 7 = .ok (.iconst 0, 1) := by decide +kernel
theorem dX7_isRoom_8 : decode cX7_isRoom 8 = .ok (.iaload, 1) := by decide +kernel
theorem dX7_isRoom_9 : decode cX7_isRoom 9 = .ok (.iconst 1, 1) := by decide +kernel
theorem dX7_isRoom_10 : decode cX7_isRoom 10 = .ok (.isub, 1) := by decide +kernel
theorem dX7_isRoom_11 : decode cX7_isRoom 11 = .ok (.i2l, 1) := by decide +kernel
theorem dX7_isRoom_12 : decode cX7_isRoom 12 = .ok (.invokestatic 61, 3) := by decide +kernel
theorem dX7_isRoom_15 : decode cX7_isRoom 15 = .ok (.ireturn, 1) := by decide +kernel
set_option maxRecDepth 20000 in
theorem ggX7_door_X7_isDoor : GoodIn wsX7_door wsX7_isDoor := goodIn_r _ [9, 10, 11, 12, 8, 13, 14, 15, 16, 17, 18, 19, 20, 21, 22, 23, 24, 25, 26, 27, 28, 29, 30, 31, 32] (by decide +kernel) (by decide +kernel)
set_option maxRecDepth 20000 in
theorem gX7_door_X7_isDoor : GoodIn wsX7_door (wsV RX7 118 RX7 yX7_isDoor wsX7_isDoor) := goodIn_app (goodIn_of _ (by decide +kernel)) ggX7_door_X7_isDoor
set_option maxRecDepth 20000 in
theorem ggX7_door_X7_in : GoodIn wsX7_door wsX7_in := goodIn_r _ [13] (by decide +kernel) (by decide +kernel)
set_option maxRecDepth 20000 in
theorem gX7_door_X7_in : GoodIn wsX7_door (va_wsS RX7 61 yX7_in wsX7_in) := goodIn_app (goodIn_of _ (by decide +kernel)) ggX7_door_X7_in
theorem dX7_door_0 : decode cX7_door 0 = .ok (.aload_n 0, 1) := by decide +kernel
theorem dX7_door_1 : decode cX7_door 1 = .ok (.iload_n 1, 1) := by decide +kernel
theorem dX7_door_2 : decode cX7_door 2 = .ok (.invokevirtual 118, 3) := by decide +kernel
theorem dX7_door_5 : decode cX7_door 5 = .ok (.ifCond .eq 15, 3) := by decide +kernel
theorem dX7_door_8 : decode cX7_door 8 = .ok (.iload_n 2, 1) := by decide +kernel
theorem dX7_door_9 : decode cX7_door 9 = .ok (.i2l, 1) := by decide +kernel
theorem dX7_door_10 : decode cX7_door 10 = .ok (.lconst 0, 1) := by decide +kernel
theorem dX7_door_11 : decode cX7_door 11 = .ok (.ldc2_w 121, 3) := by decide +kernel
theorem dX7_door_14 : decode cX7_door 14 = .ok (.invokestatic 61, 3) := by decide +kernel
theorem dX7_door_17 : decode cX7_door 17 = .ok (.ifCond .ne 5, 3) := by decide +kernel
theorem dX7_door_20 : decode cX7_door 20 = .ok (.iconst (-1), 1) := by decide +kernel
theorem dX7_door_21 : decode cX7_door 21 = .ok (.ireturn, 1) := by decide +kernel
theorem dX7_door_22 : decode cX7_door 22 = .ok (.iload_n 2, 1) := by decide +kernel
theorem dX7_door_23 : decode cX7_door 23 = .ok (.iconst 3, 1) := by decide +kernel
theorem dX7_door_24 : decode cX7_door 24 = .ok (.if_icmp .ge 16, 3) := by decide +kernel
theorem dX7_door_27 : decode cX7_door 27 = .ok (.aload_n 0, 1) := by decide +kernel
theorem dX7_door_28 : decode cX7_door 28 = .ok (.getfield 20, 3) := by decide +kernel
theorem dX7_door_31 : decode cX7_door 31 = .ok (.iconst 3, 1) := by decide +kernel
theorem dX7_door_32 : decode cX7_door 32 = .ok (.iload_n 1, 1) := by decide +kernel
theorem dX7_door_33 : decode cX7_door 33 = .ok (.imul, 1) := by decide +kernel
theorem dX7_door_34 : decode cX7_door 34 = .ok (.iload_n 2, 1) := by decide +kernel
theorem dX7_door_35 : decode cX7_door 35 = .ok (.iadd, 1) := by decide +kernel
theorem dX7_door_36 : decode cX7_door 36 = .ok (.iaload, 1) := by decide +kernel
theorem dX7_door_37 : decode cX7_door 37 = .ok (.goto 26, 3) := by decide +kernel
theorem dX7_door_40 : decode cX7_door 40 = .ok (.iload_n 2, 1) := by decide +kernel
theorem dX7_door_41 : decode cX7_door 41 = .ok (.iconst 3, 1) := by decide +kernel
theorem dX7_door_42 : decode cX7_door 42 = .ok (.if_icmp .ne 15, 3) := by decide +kernel
theorem dX7_door_45 : decode cX7_door 45 = .ok (.aload_n 0, 1) := by decide +kernel
theorem dX7_door_46 : decode cX7_door 46 = .ok (.getfield 35, 3) := by decide +kernel
theorem dX7_door_49 : decode cX7_door 49 = .ok (.bipush 32, 2) := by decide +kernel
theorem dX7_door_51 : decode cX7_door 51 = .ok (.iload_n 1, 1) := by decide +kernel
theorem dX7_door_52 : decode cX7_door 52 = .ok (.iadd, 1) := by decide +kernel
theorem dX7_door_53 : decode cX7_door 53 = .ok (.iaload, 1) := by decide +kernel
theorem dX7_door_54 : decode cX7_door 54 = .ok (.goto 9, 3) := by decide +kernel
theorem dX7_door_57 : decode cX7_door 57 = .ok (.aload_n 0, 1) := by decide +kernel
theorem dX7_door_58 : decode cX7_door 58 = .ok (.getfield 23, 3) := by decide +kernel
theorem dX7_door_61 : decode cX7_door 61 = .ok (.iload_n 1, 1) := by decide +kernel
theorem dX7_door_62 : decode cX7_door 62 = .ok (.iaload, 1) := by decide +kernel
theorem dX7_door_63 : decode cX7_door 63 = .ok (.ireturn, 1) := by decide +kernel
set_option maxRecDepth 20000 in
theorem ggX7_lodger_X7_isLodger : GoodIn wsX7_lodger wsX7_isLodger := goodIn_r _ [8, 9, 10, 11, 7, 12, 13, 14, 15, 16, 17, 18, 19, 20, 21, 22, 23, 24, 25, 26, 27, 28, 29, 30, 31] (by decide +kernel) (by decide +kernel)
set_option maxRecDepth 20000 in
theorem gX7_lodger_X7_isLodger : GoodIn wsX7_lodger (wsV RX7 123 RX7 yX7_isLodger wsX7_isLodger) := goodIn_app (goodIn_of _ (by decide +kernel)) ggX7_lodger_X7_isLodger
set_option maxRecDepth 20000 in
theorem ggX7_lodger_X7_in : GoodIn wsX7_lodger wsX7_in := goodIn_r _ [12] (by decide +kernel) (by decide +kernel)
set_option maxRecDepth 20000 in
theorem gX7_lodger_X7_in : GoodIn wsX7_lodger (va_wsS RX7 61 yX7_in wsX7_in) := goodIn_app (goodIn_of _ (by decide +kernel)) ggX7_lodger_X7_in
theorem dX7_lodger_0 : decode cX7_lodger 0 = .ok (.aload_n 0, 1) := by decide +kernel
theorem dX7_lodger_1 : decode cX7_lodger 1 = .ok (.iload_n 1, 1) := by decide +kernel
theorem dX7_lodger_2 : decode cX7_lodger 2 = .ok (.invokevirtual 123, 3) := by decide +kernel
theorem dX7_lodger_5 : decode cX7_lodger 5 = .ok (.ifCond .eq 15, 3) := by decide +kernel
theorem dX7_lodger_8 : decode cX7_lodger 8 = .ok (.iload_n 2, 1) := by decide +kernel
theorem dX7_lodger_9 : decode cX7_lodger 9 = .ok (.i2l, 1) := by decide +kernel
theorem dX7_lodger_10 : decode cX7_lodger 10 = .ok (.lconst 0, 1) := by decide +kernel
theorem dX7_lodger_11 : decode cX7_lodger 11 = .ok (.ldc2_w 76, 3) := by decide +kernel
theorem dX7_lodger_14 : decode cX7_lodger 14 = .ok (.invokestatic 61, 3) := by decide +kernel
theorem dX7_lodger_17 : decode cX7_lodger 17 = .ok (.ifCond .ne 7, 3) := by decide +kernel
theorem dX7_lodger_20 : decode cX7_lodger 20 = .ok (.iconst (-1), 1) := by decide +kernel
theorem dX7_lodger_21 : decode cX7_lodger 21 = .ok (.goto 29, 3) := by decide +kernel
theorem dX7_lodger_24 : decode cX7_lodger 24 = .ok (.iload_n 2, 1) := by decide +kernel
theorem dX7_lodger_25 : decode cX7_lodger 25 = .ok (.ifCond .ne 15, 3) := by decide +kernel
theorem dX7_lodger_28 : decode cX7_lodger 28 = .ok (.aload_n 0, 1) := by decide +kernel
theorem dX7_lodger_29 : decode cX7_lodger 29 = .ok (.getfield 35, 3) := by decide +kernel
theorem dX7_lodger_32 : decode cX7_lodger 32 = .ok (.bipush 40, 2) := by decide +kernel
theorem dX7_lodger_34 : decode cX7_lodger 34 = .ok (.iload_n 1, 1) := by decide +kernel
theorem dX7_lodger_35 : decode cX7_lodger 35 = .ok (.iadd, 1) := by decide +kernel
theorem dX7_lodger_36 : decode cX7_lodger 36 = .ok (.iaload, 1) := by decide +kernel
theorem dX7_lodger_37 : decode cX7_lodger 37 = .ok (.goto 13, 3) := by decide +kernel
theorem dX7_lodger_40 : decode cX7_lodger 40 = .ok (.aload_n 0, 1) := by decide +kernel
theorem dX7_lodger_41 : decode cX7_lodger 41 = .ok (.getfield 29, 3) := by decide +kernel
theorem dX7_lodger_44 : decode cX7_lodger 44 = .ok (.iconst 3, 1) := by decide +kernel
theorem dX7_lodger_45 : decode cX7_lodger 45 = .ok (.iload_n 1, 1) := by decide +kernel
theorem dX7_lodger_46 : decode cX7_lodger 46 = .ok (.imul, 1) := by decide +kernel
theorem dX7_lodger_47 : decode cX7_lodger 47 = .ok (.iload_n 2, 1) := by decide +kernel
theorem dX7_lodger_48 : decode cX7_lodger 48 = .ok (.iadd, 1) := by decide +kernel
theorem dX7_lodger_49 : decode cX7_lodger 49 = .ok (.iaload, 1) := by decide +kernel
theorem dX7_lodger_50 : decode cX7_lodger 50 = .ok (.ireturn, 1) := by decide +kernel
set_option maxRecDepth 20000 in
theorem ggX7_grudge_X7_isDoor : GoodIn wsX7_grudge wsX7_isDoor := goodIn_r _ [6, 7, 8, 9, 5, 10, 16, 17, 18, 19, 20, 21, 22, 23, 24, 25, 26, 27, 28, 29, 30, 31, 32, 33, 34] (by decide +kernel) (by decide +kernel)
set_option maxRecDepth 20000 in
theorem gX7_grudge_X7_isDoor : GoodIn wsX7_grudge (wsV RX7 118 RX7 yX7_isDoor wsX7_isDoor) := goodIn_app (goodIn_of _ (by decide +kernel)) ggX7_grudge_X7_isDoor
set_option maxRecDepth 20000 in
theorem ggX7_grudge_X7_isLodger : GoodIn wsX7_grudge wsX7_isLodger := goodIn_r _ [14, 15, 8, 9, 5, 10, 16, 17, 18, 19, 20, 21, 22, 23, 24, 25, 26, 27, 28, 29, 30, 31, 32, 33, 34] (by decide +kernel) (by decide +kernel)
set_option maxRecDepth 20000 in
theorem gX7_grudge_X7_isLodger : GoodIn wsX7_grudge (wsV RX7 123 RX7 yX7_isLodger wsX7_isLodger) := goodIn_app (goodIn_of _ (by decide +kernel)) ggX7_grudge_X7_isLodger
theorem dX7_grudge_0 : decode cX7_grudge 0 = .ok (.aload_n 0, 1) := by decide +kernel
theorem dX7_grudge_1 : decode cX7_grudge 1 = .ok (.iload_n 1, 1) := by decide +kernel
theorem dX7_grudge_2 : decode cX7_grudge 2 = .ok (.invokevirtual 118, 3) := by decide +kernel
theorem dX7_grudge_5 : decode cX7_grudge 5 = .ok (.ifCond .eq 24, 3) := by decide +kernel
theorem dX7_grudge_8 : decode cX7_grudge 8 = .ok (.aload_n 0, 1) := by decide +kernel
theorem dX7_grudge_9 : decode cX7_grudge 9 = .ok (.iload_n 2, 1) := by decide +kernel
theorem dX7_grudge_10 : decode cX7_grudge 10 = .ok (.invokevirtual 123, 3) := by decide +kernel
theorem dX7_grudge_13 : decode cX7_grudge 13 = .ok (.ifCond .eq 16, 3) := by decide +kernel
theorem dX7_grudge_16 : decode cX7_grudge 16 = .ok (.aload_n 0, 1) := by decide +kernel
theorem dX7_grudge_17 : decode cX7_grudge 17 = .ok (.getfield 35, 3) := by decide +kernel
theorem dX7_grudge_20 : decode cX7_grudge 20 = .ok (.iconst 4, 1) := by decide +kernel
theorem dX7_grudge_21 : decode cX7_grudge 21 = .ok (.iload_n 1, 1) := by decide +kernel
theorem dX7_grudge_22 : decode cX7_grudge 22 = .ok (.imul, 1) := by decide +kernel
theorem dX7_grudge_23 : decode cX7_grudge 23 = .ok (.iload_n 2, 1) := by decide +kernel
theorem dX7_grudge_24 : decode cX7_grudge 24 = .ok (.iadd, 1) := by decide +kernel
theorem dX7_grudge_25 : decode cX7_grudge 25 = .ok (.iaload, 1) := by decide +kernel
theorem dX7_grudge_26 : decode cX7_grudge 26 = .ok (.goto 4, 3) := by decide +kernel
theorem dX7_grudge_29 : decode cX7_grudge 29 = .ok (.iconst (-1), 1) := by decide +kernel
theorem dX7_grudge_30 : decode cX7_grudge 30 = .ok (.ireturn, 1) := by decide +kernel
theorem dX7_copies_0 : decode cX7_copies 0 = .ok (.iconst 0, 1) := by decide +kernel
theorem dX7_copies_1 : decode cX7_copies 1 = .ok (.istore_n 3, 1) := by decide +kernel
theorem dX7_copies_2 : decode cX7_copies 2 = .ok (.iload_n 3, 1) := by decide +kernel
theorem dX7_copies_3 : decode cX7_copies 3 = .ok (.bipush 46, 2) := by decide +kernel
theorem dX7_copies_5 : decode cX7_copies 5 = .ok (.if_icmp .ge 31, 3) := by decide +kernel
theorem dX7_copies_8 : decode cX7_copies 8 = .ok (.aload_n 0, 1) := by decide +kernel
theorem dX7_copies_9 : decode cX7_copies 9 = .ok (.getfield 35, 3) := by decide +kernel
theorem dX7_copies_12 : decode cX7_copies 12 = .ok (.bipush 46, 2) := by decide +kernel
theorem dX7_copies_14 : decode cX7_copies 14 = .ok (.iload_n 2, 1) := by decide +kernel
theorem dX7_copies_15 : decode cX7_copies 15 = .ok (.imul, 1) := by decide +kernel
theorem dX7_copies_16 : decode cX7_copies 16 = .ok (.iload_n 3, 1) := by decide +kernel
theorem dX7_copies_17 : decode cX7_copies 17 = .ok (.iadd, 1) := by decide +kernel
theorem dX7_copies_18 : decode cX7_copies 18 = .ok (.aload_n 0, 1) := by decide +kernel
theorem dX7_copies_19 : decode cX7_copies 19 = .ok (.getfield 35, 3) := by decide +kernel
theorem dX7_copies_22 : decode cX7_copies 22 = .ok (.bipush 46, 2) := by decide +kernel
theorem dX7_copies_24 : decode cX7_copies 24 = .ok (.iload_n 1, 1) := by decide +kernel
theorem dX7_copies_25 : decode cX7_copies 25 = .ok (.imul, 1) := by decide +kernel
theorem dX7_copies_26 : decode cX7_copies 26 = .ok (.iload_n 3, 1) := by decide +kernel
theorem dX7_copies_27 : decode cX7_copies 27 = .ok (.iadd, 1) := by decide +kernel
theorem dX7_copies_28 : decode cX7_copies 28 = .ok (.iaload, 1) := by decide +kernel
theorem dX7_copies_29 : decode cX7_copies 29 = .ok (.iastore, 1) := by decide +kernel
theorem dX7_copies_30 : decode cX7_copies 30 = .ok (.iinc 3 1, 3) := by decide +kernel
theorem dX7_copies_33 : decode cX7_copies 33 = .ok (.goto (-31), 3) := by decide +kernel
theorem dX7_copies_36 : decode cX7_copies 36 = .ok (.return_, 1) := by decide +kernel
set_option maxRecDepth 20000 in
theorem ggX7_known_X7_copies : GoodIn wsX7_known wsX7_copies := goodIn_r _ [6, 7, 8, 9, 10, 11, 12, 13, 14, 15, 16, 17, 18, 19, 20, 21, 22, 23, 24, 25, 26] (by decide +kernel) (by decide +kernel)
set_option maxRecDepth 20000 in
theorem gX7_known_X7_copies : GoodIn wsX7_known (wsV RX7 126 RX7 yX7_copies wsX7_copies) := goodIn_app (goodIn_of _ (by decide +kernel)) ggX7_known_X7_copies
theorem dX7_known_0 : decode cX7_known 0 = .ok (.aload_n 0, 1) := by decide +kernel
theorem dX7_known_1 : decode cX7_known 1 = .ok (.getfield 103, 3) := by decide +kernel
theorem dX7_known_4 : decode cX7_known 4 = .ok (.bipush 8, 2) := by decide +kernel
theorem dX7_known_6 : decode cX7_known 6 = .ok (.if_icmp .ne 35, 3) := by decide +kernel
theorem dX7_known_9 : decode cX7_known 9 = .ok (.iconst 3, 1) := by decide +kernel
theorem dX7_known_10 : decode cX7_known 10 = .ok (.istore_n 1, 1) := by decide +kernel
theorem dX7_known_11 : decode cX7_known 11 = .ok (.iload_n 1, 1) := by decide +kernel
theorem dX7_known_12 : decode cX7_known 12 = .ok (.bipush 10, 2) := by decide +kernel
theorem dX7_known_14 : decode cX7_known 14 = .ok (.if_icmp .ge 17, 3) := by decide +kernel
theorem dX7_known_17 : decode cX7_known 17 = .ok (.aload_n 0, 1) := by decide +kernel
theorem dX7_known_18 : decode cX7_known 18 = .ok (.iload_n 1, 1) := by decide +kernel
theorem dX7_known_19 : decode cX7_known 19 = .ok (.iconst 1, 1) := by decide +kernel
theorem dX7_known_20 : decode cX7_known 20 = .ok (.iadd, 1) := by decide +kernel
theorem dX7_known_21 : decode cX7_known 21 = .ok (.iload_n 1, 1) := by decide +kernel
theorem dX7_known_22 : decode cX7_known 22 = .ok (.invokevirtual 126, 3) := by decide +kernel
theorem dX7_known_25 : decode cX7_known 25 = .ok (.iinc 1 1, 3) := by decide +kernel
theorem dX7_known_28 : decode cX7_known 28 = .ok (.goto (-17), 3) := by decide +kernel
theorem dX7_known_31 : decode cX7_known 31 = .ok (.aload_n 0, 1) := by decide +kernel
theorem dX7_known_32 : decode cX7_known 32 = .ok (.dup, 1) := by decide +kernel
theorem dX7_known_33 : decode cX7_known 33 = .ok (.getfield 103, 3) := by decide +kernel
theorem dX7_known_36 : decode cX7_known 36 = .ok (.iconst 1, 1) := by decide +kernel
theorem dX7_known_37 : decode cX7_known 37 = .ok (.isub, 1) := by decide +kernel
theorem dX7_known_38 : decode cX7_known 38 = .ok (.putfield 103, 3) := by decide +kernel
theorem dX7_known_41 : decode cX7_known 41 = .ok (.aload_n 0, 1) := by decide +kernel
theorem dX7_known_42 : decode cX7_known 42 = .ok (.iconst 0, 1) := by decide +kernel
theorem dX7_known_43 : decode cX7_known 43 = .ok (.iconst 3, 1) := by decide +kernel
theorem dX7_known_44 : decode cX7_known 44 = .ok (.aload_n 0, 1) := by decide +kernel
theorem dX7_known_45 : decode cX7_known 45 = .ok (.getfield 103, 3) := by decide +kernel
theorem dX7_known_48 : decode cX7_known 48 = .ok (.iadd, 1) := by decide +kernel
theorem dX7_known_49 : decode cX7_known 49 = .ok (.invokevirtual 126, 3) := by decide +kernel
theorem dX7_known_52 : decode cX7_known 52 = .ok (.aload_n 0, 1) := by decide +kernel
theorem dX7_known_53 : decode cX7_known 53 = .ok (.dup, 1) := by decide +kernel
theorem dX7_known_54 : decode cX7_known 54 = .ok (.getfield 103, 3) := by decide +kernel
theorem dX7_known_57 : decode cX7_known 57 = .ok (.iconst 1, 1) := by decide +kernel
theorem dX7_known_58 : decode cX7_known 58 = .ok (.iadd, 1) := by decide +kernel
theorem dX7_known_59 : decode cX7_known 59 = .ok (.putfield 103, 3) := by decide +kernel
theorem dX7_known_62 : decode cX7_known 62 = .ok (.return_, 1) := by decide +kernel
theorem dX7_costs_0 : decode cX7_costs 0 = .ok (.aload_n 0, 1) := by decide +kernel
theorem dX7_costs_1 : decode cX7_costs 1 = .ok (.getfield 35, 3) := by decide +kernel
theorem dX7_costs_4 : decode cX7_costs 4 = .ok (.bipush 46, 2) := by decide +kernel
theorem dX7_costs_6 : decode cX7_costs 6 = .ok (.iload_n 1, 1) := by decide +kernel
theorem dX7_costs_7 : decode cX7_costs 7 = .ok (.imul, 1) := by decide +kernel
theorem dX7_costs_8 : decode cX7_costs 8 = .ok (.bipush 32, 2) := by decide +kernel
theorem dX7_costs_10 : decode cX7_costs 10 = .ok (.iadd, 1) := by decide +kernel
theorem dX7_costs_11 : decode cX7_costs 11 = .ok (.iload_n 2, 1) := by decide +kernel
theorem dX7_costs_12 : decode cX7_costs 12 = .ok (.iadd, 1) := by decide +kernel
theorem dX7_costs_13 : decode cX7_costs 13 = .ok (.iaload, 1) := by decide +kernel
theorem dX7_costs_14 : decode cX7_costs 14 = .ok (.ifCond .le 7, 3) := by decide +kernel
theorem dX7_costs_17 : decode cX7_costs 17 = .ok (.iconst 1, 1) := by decide +kernel
theorem dX7_costs_18 : decode cX7_costs 18 = .ok (.goto 20, 3) := by decide +kernel
theorem dX7_costs_21 : decode cX7_costs 21 = .ok (.iconst 1, 1) := by decide +kernel
theorem dX7_costs_22 : decode cX7_costs 22 = .ok (.aload_n 0, 1) := by decide +kernel
theorem dX7_costs_23 : decode cX7_costs 23 = .ok (.getfield 35, 3) := by decide +kernel
theorem dX7_costs_26 : decode cX7_costs 26 = .ok (.bipush 46, 2) := by decide +kernel
theorem dX7_costs_28 : decode cX7_costs 28 = .ok (.iload_n 1, 1) := by decide +kernel
theorem dX7_costs_29 : decode cX7_costs 29 = .ok (.imul, 1) := by decide +kernel
theorem dX7_costs_30 : decode cX7_costs 30 = .ok (.iconst 4, 1) := by decide +kernel
theorem dX7_costs_31 : decode cX7_costs 31 = .ok (.iload_n 2, 1) := by decide +kernel
theorem dX7_costs_32 : decode cX7_costs 32 = .ok (.imul, 1) := by decide +kernel
theorem dX7_costs_33 : decode cX7_costs 33 = .ok (.iadd, 1) := by decide +kernel
theorem dX7_costs_34 : decode cX7_costs 34 = .ok (.iload_n 3, 1) := by decide +kernel
theorem dX7_costs_35 : decode cX7_costs 35 = .ok (.iadd, 1) := by decide +kernel
theorem dX7_costs_36 : decode cX7_costs 36 = .ok (.iaload, 1) := by decide +kernel
theorem dX7_costs_37 : decode cX7_costs 37 = .ok (.iadd, 1) := by decide +kernel
theorem dX7_costs_38 : decode cX7_costs 38 = .ok (.ireturn, 1) := by decide +kernel
theorem dX7_isOf_0 : decode cX7_isOf 0 = .ok (.aload_n 0, 1) := by decide +kernel
theorem dX7_isOf_1 : decode cX7_isOf 1 = .ok (.getfield 20, 3) := by decide +kernel
theorem dX7_isOf_4 : decode cX7_isOf 4 = .ok (.iconst 3, 1) := by decide +kernel
theorem dX7_isOf_5 : decode cX7_isOf 5 = .ok (.iload_n 1, 1) := by decide +kernel
theorem dX7_isOf_6 : decode cX7_isOf 6 = .ok (.imul, 1) := by decide +kernel
theorem dX7_isOf_7 : decode cX7_isOf 7 = .ok (.iaload, 1) := by decide +kernel
theorem dX7_isOf_8 : decode cX7_isOf 8 = .ok (.iload_n 2, 1) := by decide +kernel
theorem dX7_isOf_9 : decode cX7_isOf 9 = .ok (.if_icmp .eq 17, 3) := by decide +kernel
theorem dX7_isOf_12 : decode cX7_isOf 12 = .ok (.aload_n 0, 1) := by decide +kernel
theorem dX7_isOf_13 : decode cX7_isOf 13 = .ok (.getfield 20, 3) := by decide +kernel
theorem dX7_isOf_16 : decode cX7_isOf 16 = .ok (.iconst 3, 1) := by decide +kernel
theorem dX7_isOf_17 : decode cX7_isOf 17 = .ok (.iload_n 1, 1) := by decide +kernel
theorem dX7_isOf_18 : decode cX7_isOf 18 = .ok (.imul, 1) := by decide +kernel
theorem dX7_isOf_19 : decode cX7_isOf 19 = .ok (.iconst 1, 1) := by decide +kernel
theorem dX7_isOf_20 : decode cX7_isOf 20 = .ok (.iadd, 1) := by decide +kernel
theorem dX7_isOf_21 : decode cX7_isOf 21 = .ok (.iaload, 1) := by decide +kernel
theorem dX7_isOf_22 : decode cX7_isOf 22 = .ok (.iload_n 2, 1) := by decide +kernel
theorem dX7_isOf_23 : decode cX7_isOf 23 = .ok (.if_icmp .ne 7, 3) := by decide +kernel
theorem dX7_isOf_26 : decode cX7_isOf 26 = .ok (.iconst 1, 1) := by decide +kernel
theorem dX7_isOf_27 : decode cX7_isOf 27 = .ok (.goto 4, 3) := by decide +kernel
theorem dX7_isOf_30 : decode cX7_isOf 30 = .ok (.iconst 0, 1) := by decide +kernel
theorem dX7_isOf_31 : decode cX7_isOf 31 = .ok (.ireturn, 1) := by decide +kernel
theorem dX7_over_0 : decode cX7_over 0 = .ok (.aload_n 0, 1) := by decide +kernel
theorem dX7_over_1 : decode cX7_over 1 = .ok (.getfield 20, 3) := by decide +kernel
theorem dX7_over_4 : decode cX7_over 4 = .ok (.iconst 3, 1) := by decide +kernel
theorem dX7_over_5 : decode cX7_over 5 = .ok (.iload_n 1, 1) := by decide +kernel
theorem dX7_over_6 : decode cX7_over 6 = .ok (.imul, 1) := by decide +kernel
theorem dX7_over_7 : decode cX7_over 7 = .ok (.iaload, 1) := by decide +kernel
theorem dX7_over_8 : decode cX7_over 8 = .ok (.iload_n 2, 1) := by decide +kernel
theorem dX7_over_9 : decode cX7_over 9 = .ok (.if_icmp .ne 16, 3) := by decide +kernel
theorem dX7_over_12 : decode cX7_over 12 = .ok (.aload_n 0, 1) := by decide +kernel
theorem dX7_over_13 : decode cX7_over 13 = .ok (.getfield 20, 3) := by decide +kernel
theorem dX7_over_16 : decode cX7_over 16 = .ok (.iconst 3, 1) := by decide +kernel
theorem dX7_over_17 : decode cX7_over 17 = .ok (.iload_n 1, 1) := by decide +kernel
theorem dX7_over_18 : decode cX7_over 18 = .ok (.imul, 1) := by decide +kernel
theorem dX7_over_19 : decode cX7_over 19 = .ok (.iconst 1, 1) := by decide +kernel
theorem dX7_over_20 : decode cX7_over 20 = .ok (.iadd, 1) := by decide +kernel
theorem dX7_over_21 : decode cX7_over 21 = .ok (.iaload, 1) := by decide +kernel
theorem dX7_over_22 : decode cX7_over 22 = .ok (.goto 11, 3) := by decide +kernel
theorem dX7_over_25 : decode cX7_over 25 = .ok (.aload_n 0, 1) := by decide +kernel
theorem dX7_over_26 : decode cX7_over 26 = .ok (.getfield 20, 3) := by decide +kernel
theorem dX7_over_29 : decode cX7_over 29 = .ok (.iconst 3, 1) := by decide +kernel
theorem dX7_over_30 : decode cX7_over 30 = .ok (.iload_n 1, 1) := by decide +kernel
theorem dX7_over_31 : decode cX7_over 31 = .ok (.imul, 1) := by decide +kernel
theorem dX7_over_32 : decode cX7_over 32 = .ok (.iaload, 1) := by decide +kernel
theorem dX7_over_33 : decode cX7_over 33 = .ok (.ireturn, 1) := by decide +kernel
theorem dX7_becomes_0 : decode cX7_becomes 0 = .ok (.iload_n 3, 1) := by decide +kernel
theorem dX7_becomes_1 : decode cX7_becomes 1 = .ok (.ifCond .eq 18, 3) := by decide +kernel
theorem dX7_becomes_4 : decode cX7_becomes 4 = .ok (.iload_n 2, 1) := by decide +kernel
theorem dX7_becomes_5 : decode cX7_becomes 5 = .ok (.aload_n 0, 1) := by decide +kernel
theorem dX7_becomes_6 : decode cX7_becomes 6 = .ok (.getfield 29, 3) := by decide +kernel
theorem dX7_becomes_9 : decode cX7_becomes 9 = .ok (.iconst 3, 1) := by decide +kernel
theorem dX7_becomes_10 : decode cX7_becomes 10 = .ok (.iload_n 1, 1) := by decide +kernel
theorem dX7_becomes_11 : decode cX7_becomes 11 = .ok (.imul, 1) := by decide +kernel
theorem dX7_becomes_12 : decode cX7_becomes 12 = .ok (.iconst 1, 1) := by decide +kernel
theorem dX7_becomes_13 : decode cX7_becomes 13 = .ok (.iadd, 1) := by decide +kernel
theorem dX7_becomes_14 : decode cX7_becomes 14 = .ok (.iaload, 1) := by decide +kernel
theorem dX7_becomes_15 : decode cX7_becomes 15 = .ok (.iadd, 1) := by decide +kernel
theorem dX7_becomes_16 : decode cX7_becomes 16 = .ok (.goto 11, 3) := by decide +kernel
theorem dX7_becomes_19 : decode cX7_becomes 19 = .ok (.iload_n 2, 1) := by decide +kernel
theorem dX7_becomes_20 : decode cX7_becomes 20 = .ok (.aload_n 0, 1) := by decide +kernel
theorem dX7_becomes_21 : decode cX7_becomes 21 = .ok (.getfield 13, 3) := by decide +kernel
theorem dX7_becomes_24 : decode cX7_becomes 24 = .ok (.iconst 3, 1) := by decide +kernel
theorem dX7_becomes_25 : decode cX7_becomes 25 = .ok (.iaload, 1) := by decide +kernel
theorem dX7_becomes_26 : decode cX7_becomes 26 = .ok (.isub, 1) := by decide +kernel
theorem dX7_becomes_27 : decode cX7_becomes 27 = .ok (.istore 4, 2) := by decide +kernel
theorem dX7_becomes_29 : decode cX7_becomes 29 = .ok (.iload 4, 2) := by decide +kernel
theorem dX7_becomes_31 : decode cX7_becomes 31 = .ok (.ifCond .ge 7, 3) := by decide +kernel
theorem dX7_becomes_34 : decode cX7_becomes 34 = .ok (.iconst 0, 1) := by decide +kernel
theorem dX7_becomes_35 : decode cX7_becomes 35 = .ok (.goto 17, 3) := by decide +kernel
theorem dX7_becomes_38 : decode cX7_becomes 38 = .ok (.iload 4, 2) := by decide +kernel
theorem dX7_becomes_40 : decode cX7_becomes 40 = .ok (.bipush 99, 2) := by decide +kernel
theorem dX7_becomes_42 : decode cX7_becomes 42 = .ok (.if_icmp .le 8, 3) := by decide +kernel
theorem dX7_becomes_45 : decode cX7_becomes 45 = .ok (.bipush 99, 2) := by decide +kernel
theorem dX7_becomes_47 : decode cX7_becomes 47 = .ok (.goto 5, 3) := by decide +kernel
theorem dX7_becomes_50 : decode cX7_becomes 50 = .ok (.iload 4, 2) := by decide +kernel
theorem dX7_becomes_52 : decode cX7_becomes 52 = .ok (.ireturn, 1) := by decide +kernel
set_option maxRecDepth 20000 in
theorem ggX7_goes_X7_costs : GoodIn wsX7_goes wsX7_costs := goodIn_r _ [6, 1, 18, 19, 20, 21, 22, 23, 24, 25, 26, 27, 28, 29, 30, 31, 32, 33, 34, 35, 36] (by decide +kernel) (by decide +kernel)
set_option maxRecDepth 20000 in
theorem gX7_goes_X7_costs : GoodIn wsX7_goes (wsV RX7 130 RX7 yX7_costs wsX7_costs) := goodIn_app (goodIn_of _ (by decide +kernel)) ggX7_goes_X7_costs
set_option maxRecDepth 20000 in
theorem ggX7_goes_X7_becomes : GoodIn wsX7_goes wsX7_becomes := goodIn_r _ [10, 11, 12, 18, 19, 20, 21, 22, 23, 24, 25, 26, 27, 28, 29, 30, 31, 32, 33, 34, 35, 36] (by decide +kernel) (by decide +kernel)
set_option maxRecDepth 20000 in
theorem gX7_goes_X7_becomes : GoodIn wsX7_goes (wsV RX7 134 RX7 yX7_becomes wsX7_becomes) := goodIn_app (goodIn_of _ (by decide +kernel)) ggX7_goes_X7_becomes
set_option maxRecDepth 20000 in
theorem ggX7_goes_X7_over : GoodIn wsX7_goes wsX7_over := goodIn_r _ [16, 17, 18, 19, 20, 21, 22, 23, 24, 25, 26, 27, 28, 29, 30, 31, 32, 33, 34, 35, 36] (by decide +kernel) (by decide +kernel)
set_option maxRecDepth 20000 in
theorem gX7_goes_X7_over : GoodIn wsX7_goes (wsV RX7 138 RX7 yX7_over wsX7_over) := goodIn_app (goodIn_of _ (by decide +kernel)) ggX7_goes_X7_over
theorem dX7_goes_0 : decode cX7_goes 0 = .ok (.bipush 46, 2) := by decide +kernel
theorem dX7_goes_2 : decode cX7_goes 2 = .ok (.iload_n 1, 1) := by decide +kernel
theorem dX7_goes_3 : decode cX7_goes 3 = .ok (.imul, 1) := by decide +kernel
theorem dX7_goes_4 : decode cX7_goes 4 = .ok (.istore 5, 2) := by decide +kernel
theorem dX7_goes_6 : decode cX7_goes 6 = .ok (.aload_n 0, 1) := by decide +kernel
theorem dX7_goes_7 : decode cX7_goes 7 = .ok (.iload_n 1, 1) := by decide +kernel
theorem dX7_goes_8 : decode cX7_goes 8 = .ok (.iload_n 3, 1) := by decide +kernel
theorem dX7_goes_9 : decode cX7_goes 9 = .ok (.iload_n 2, 1) := by decide +kernel
theorem dX7_goes_10 : decode cX7_goes 10 = .ok (.invokevirtual 130, 3) := by decide +kernel
theorem dX7_goes_13 : decode cX7_goes 13 = .ok (.istore 6, 2) := by decide +kernel
theorem dX7_goes_15 : decode cX7_goes 15 = .ok (.aload_n 0, 1) := by decide +kernel
theorem dX7_goes_16 : decode cX7_goes 16 = .ok (.getfield 35, 3) := by decide +kernel
theorem dX7_goes_19 : decode cX7_goes 19 = .ok (.iload 5, 2) := by decide +kernel
theorem dX7_goes_21 : decode cX7_goes 21 = .ok (.iconst 4, 1) := by decide +kernel
theorem dX7_goes_22 : decode cX7_goes 22 = .ok (.iload_n 3, 1) := by decide +kernel
theorem dX7_goes_23 : decode cX7_goes 23 = .ok (.imul, 1) := by decide +kernel
theorem dX7_goes_24 : decode cX7_goes 24 = .ok (.iadd, 1) := by decide +kernel
theorem dX7_goes_25 : decode cX7_goes 25 = .ok (.iload_n 2, 1) := by decide +kernel
theorem dX7_goes_26 : decode cX7_goes 26 = .ok (.iadd, 1) := by decide +kernel
theorem dX7_goes_27 : decode cX7_goes 27 = .ok (.aload_n 0, 1) := by decide +kernel
theorem dX7_goes_28 : decode cX7_goes 28 = .ok (.iload_n 2, 1) := by decide +kernel
theorem dX7_goes_29 : decode cX7_goes 29 = .ok (.aload_n 0, 1) := by decide +kernel
theorem dX7_goes_30 : decode cX7_goes 30 = .ok (.getfield 35, 3) := by decide +kernel
theorem dX7_goes_33 : decode cX7_goes 33 = .ok (.iload 5, 2) := by decide +kernel
theorem dX7_goes_35 : decode cX7_goes 35 = .ok (.iconst 4, 1) := by decide +kernel
theorem dX7_goes_36 : decode cX7_goes 36 = .ok (.iload_n 3, 1) := by decide +kernel
theorem dX7_goes_37 : decode cX7_goes 37 = .ok (.imul, 1) := by decide +kernel
theorem dX7_goes_38 : decode cX7_goes 38 = .ok (.iadd, 1) := by decide +kernel
theorem dX7_goes_39 : decode cX7_goes 39 = .ok (.iload_n 2, 1) := by decide +kernel
theorem dX7_goes_40 : decode cX7_goes 40 = .ok (.iadd, 1) := by decide +kernel
theorem dX7_goes_41 : decode cX7_goes 41 = .ok (.iaload, 1) := by decide +kernel
theorem dX7_goes_42 : decode cX7_goes 42 = .ok (.iload 4, 2) := by decide +kernel
theorem dX7_goes_44 : decode cX7_goes 44 = .ok (.invokevirtual 134, 3) := by decide +kernel
theorem dX7_goes_47 : decode cX7_goes 47 = .ok (.iastore, 1) := by decide +kernel
theorem dX7_goes_48 : decode cX7_goes 48 = .ok (.aload_n 0, 1) := by decide +kernel
theorem dX7_goes_49 : decode cX7_goes 49 = .ok (.getfield 35, 3) := by decide +kernel
theorem dX7_goes_52 : decode cX7_goes 52 = .ok (.iload 5, 2) := by decide +kernel
theorem dX7_goes_54 : decode cX7_goes 54 = .ok (.bipush 40, 2) := by decide +kernel
theorem dX7_goes_56 : decode cX7_goes 56 = .ok (.iadd, 1) := by decide +kernel
theorem dX7_goes_57 : decode cX7_goes 57 = .ok (.iload_n 2, 1) := by decide +kernel
theorem dX7_goes_58 : decode cX7_goes 58 = .ok (.iadd, 1) := by decide +kernel
theorem dX7_goes_59 : decode cX7_goes 59 = .ok (.aload_n 0, 1) := by decide +kernel
theorem dX7_goes_60 : decode cX7_goes 60 = .ok (.iload_n 3, 1) := by decide +kernel
theorem dX7_goes_61 : decode cX7_goes 61 = .ok (.aload_n 0, 1) := by decide +kernel
theorem dX7_goes_62 : decode cX7_goes 62 = .ok (.getfield 35, 3) := by decide +kernel
theorem dX7_goes_65 : decode cX7_goes 65 = .ok (.iload 5, 2) := by decide +kernel
theorem dX7_goes_67 : decode cX7_goes 67 = .ok (.bipush 40, 2) := by decide +kernel
theorem dX7_goes_69 : decode cX7_goes 69 = .ok (.iadd, 1) := by decide +kernel
theorem dX7_goes_70 : decode cX7_goes 70 = .ok (.iload_n 2, 1) := by decide +kernel
theorem dX7_goes_71 : decode cX7_goes 71 = .ok (.iadd, 1) := by decide +kernel
theorem dX7_goes_72 : decode cX7_goes 72 = .ok (.iaload, 1) := by decide +kernel
theorem dX7_goes_73 : decode cX7_goes 73 = .ok (.invokevirtual 138, 3) := by decide +kernel
theorem dX7_goes_76 : decode cX7_goes 76 = .ok (.iastore, 1) := by decide +kernel
theorem dX7_goes_77 : decode cX7_goes 77 = .ok (.aload_n 0, 1) := by decide +kernel
theorem dX7_goes_78 : decode cX7_goes 78 = .ok (.getfield 35, 3) := by decide +kernel
theorem dX7_goes_81 : decode cX7_goes 81 = .ok (.iload 5, 2) := by decide +kernel
theorem dX7_goes_83 : decode cX7_goes 83 = .ok (.bipush 44, 2) := by decide +kernel
theorem dX7_goes_85 : decode cX7_goes 85 = .ok (.iadd, 1) := by decide +kernel
theorem dX7_goes_86 : decode cX7_goes 86 = .ok (.dup2, 1) := by decide +kernel
theorem dX7_goes_87 : decode cX7_goes 87 = .ok (.iaload, 1) := by decide +kernel
theorem dX7_goes_88 : decode cX7_goes 88 = .ok (.iload 6, 2) := by decide +kernel
theorem dX7_goes_90 : decode cX7_goes 90 = .ok (.iadd, 1) := by decide +kernel
theorem dX7_goes_91 : decode cX7_goes 91 = .ok (.iastore, 1) := by decide +kernel
theorem dX7_goes_92 : decode cX7_goes 92 = .ok (.iload 6, 2) := by decide +kernel
theorem dX7_goes_94 : decode cX7_goes 94 = .ok (.ireturn, 1) := by decide +kernel
set_option maxRecDepth 20000 in
theorem ggX7_go_X7_isLodger : GoodIn wsX7_go wsX7_isLodger := goodIn_r _ [6, 7, 8, 9, 5, 10, 48, 49, 50, 51, 52, 53, 54, 55, 56, 57, 58, 59, 60, 61, 62, 63, 64, 65, 66] (by decide +kernel) (by decide +kernel)
set_option maxRecDepth 20000 in
theorem gX7_go_X7_isLodger : GoodIn wsX7_go (wsV RX7 123 RX7 yX7_isLodger wsX7_isLodger) := goodIn_app (goodIn_of _ (by decide +kernel)) ggX7_go_X7_isLodger
set_option maxRecDepth 20000 in
theorem ggX7_go_X7_isDoor : GoodIn wsX7_go wsX7_isDoor := goodIn_r _ [14, 15, 8, 9, 5, 10, 48, 49, 50, 51, 52, 53, 54, 55, 56, 57, 58, 59, 60, 61, 62, 63, 64, 65, 66] (by decide +kernel) (by decide +kernel)
set_option maxRecDepth 20000 in
theorem gX7_go_X7_isDoor : GoodIn wsX7_go (wsV RX7 118 RX7 yX7_isDoor wsX7_isDoor) := goodIn_app (goodIn_of _ (by decide +kernel)) ggX7_go_X7_isDoor
set_option maxRecDepth 20000 in
theorem ggX7_go_X7_isOf : GoodIn wsX7_go wsX7_isOf := goodIn_r _ [19, 20, 48, 49, 50, 51, 52, 53, 54, 55, 56, 57, 58, 59, 60, 61, 62, 63, 64, 65, 66] (by decide +kernel) (by decide +kernel)
set_option maxRecDepth 20000 in
theorem gX7_go_X7_isOf : GoodIn wsX7_go (wsV RX7 142 RX7 yX7_isOf wsX7_isOf) := goodIn_app (goodIn_of _ (by decide +kernel)) ggX7_go_X7_isOf
set_option maxRecDepth 20000 in
theorem ggX7_go_X7_known : GoodIn wsX7_go wsX7_known := goodIn_r _ [24, 25, 26, 27, 28, 5, 29, 1, 48, 49, 50, 51, 52, 53, 54, 55, 56, 57, 58, 59, 60, 61, 62, 63, 64, 65, 66] (by decide +kernel) (by decide +kernel)
set_option maxRecDepth 20000 in
theorem gX7_go_X7_known : GoodIn wsX7_go (wsV RX7 146 RX7 yX7_known wsX7_known) := goodIn_app (goodIn_of _ (by decide +kernel)) ggX7_go_X7_known
set_option maxRecDepth 20000 in
theorem ggX7_go_X7_goes : GoodIn wsX7_go wsX7_goes := goodIn_r _ [33, 1, 34, 35, 36, 5, 37, 38, 39, 40, 41, 42, 43, 44, 45, 46, 47, 20, 48, 49, 50, 51, 52, 53, 54, 55, 56, 57, 58, 59, 60, 61, 62, 63, 64, 65, 66] (by decide +kernel) (by decide +kernel)
set_option maxRecDepth 20000 in
theorem gX7_go_X7_goes : GoodIn wsX7_go (wsV RX7 149 RX7 yX7_goes wsX7_goes) := goodIn_app (goodIn_of _ (by decide +kernel)) ggX7_go_X7_goes
theorem dX7_go_0 : decode cX7_go 0 = .ok (.aload_n 0, 1) := by decide +kernel
theorem dX7_go_1 : decode cX7_go 1 = .ok (.iload_n 1, 1) := by decide +kernel
theorem dX7_go_2 : decode cX7_go 2 = .ok (.invokevirtual 123, 3) := by decide +kernel
theorem dX7_go_5 : decode cX7_go 5 = .ok (.ifCond .eq 11, 3) := by decide +kernel
theorem dX7_go_8 : decode cX7_go 8 = .ok (.aload_n 0, 1) := by decide +kernel
theorem dX7_go_9 : decode cX7_go 9 = .ok (.iload_n 2, 1) := by decide +kernel
theorem dX7_go_10 : decode cX7_go 10 = .ok (.invokevirtual 118, 3) := by decide +kernel
theorem dX7_go_13 : decode cX7_go 13 = .ok (.ifCond .ne 5, 3) := by decide +kernel
theorem dX7_go_16 : decode cX7_go 16 = .ok (.iconst (-1), 1) := by decide +kernel
theorem dX7_go_17 : decode cX7_go 17 = .ok (.ireturn, 1) := by decide +kernel
theorem dX7_go_18 : decode cX7_go 18 = .ok (.aload_n 0, 1) := by decide +kernel
theorem dX7_go_19 : decode cX7_go 19 = .ok (.iload_n 2, 1) := by decide +kernel
theorem dX7_go_20 : decode cX7_go 20 = .ok (.aload_n 0, 1) := by decide +kernel
theorem dX7_go_21 : decode cX7_go 21 = .ok (.getfield 35, 3) := by decide +kernel
theorem dX7_go_24 : decode cX7_go 24 = .ok (.bipush 40, 2) := by decide +kernel
theorem dX7_go_26 : decode cX7_go 26 = .ok (.iload_n 1, 1) := by decide +kernel
theorem dX7_go_27 : decode cX7_go 27 = .ok (.iadd, 1) := by decide +kernel
theorem dX7_go_28 : decode cX7_go 28 = .ok (.iaload, 1) := by decide +kernel
theorem dX7_go_29 : decode cX7_go 29 = .ok (.invokevirtual 142, 3) := by decide +kernel
theorem dX7_go_32 : decode cX7_go 32 = .ok (.ifCond .ne 6, 3) := by decide +kernel
theorem dX7_go_35 : decode cX7_go 35 = .ok (.bipush (-2), 2) := by decide +kernel
theorem dX7_go_37 : decode cX7_go 37 = .ok (.ireturn, 1) := by decide +kernel
theorem dX7_go_38 : decode cX7_go 38 = .ok (.aload_n 0, 1) := by decide +kernel
theorem dX7_go_39 : decode cX7_go 39 = .ok (.invokevirtual 146, 3) := by decide +kernel
theorem dX7_go_42 : decode cX7_go 42 = .ok (.aload_n 0, 1) := by decide +kernel
theorem dX7_go_43 : decode cX7_go 43 = .ok (.iconst 0, 1) := by decide +kernel
theorem dX7_go_44 : decode cX7_go 44 = .ok (.iload_n 1, 1) := by decide +kernel
theorem dX7_go_45 : decode cX7_go 45 = .ok (.iload_n 2, 1) := by decide +kernel
theorem dX7_go_46 : decode cX7_go 46 = .ok (.iload_n 3, 1) := by decide +kernel
theorem dX7_go_47 : decode cX7_go 47 = .ok (.invokevirtual 149, 3) := by decide +kernel
theorem dX7_go_50 : decode cX7_go 50 = .ok (.ireturn, 1) := by decide +kernel
set_option maxRecDepth 20000 in
theorem ggX7_oil_X7_isDoor : GoodIn wsX7_oil wsX7_isDoor := goodIn_r _ [8, 3, 9, 10, 7, 11, 21, 22, 23, 24, 25, 26, 27, 28, 29, 30, 31, 32, 33, 34, 35, 36, 37, 38, 39] (by decide +kernel) (by decide +kernel)
set_option maxRecDepth 20000 in
theorem gX7_oil_X7_isDoor : GoodIn wsX7_oil (wsV RX7 118 RX7 yX7_isDoor wsX7_isDoor) := goodIn_app (goodIn_of _ (by decide +kernel)) ggX7_oil_X7_isDoor
set_option maxRecDepth 20000 in
theorem ggX7_oil_X7_known : GoodIn wsX7_oil wsX7_known := goodIn_r _ [15, 16, 17, 18, 19, 7, 20, 1, 21, 22, 23, 24, 25, 26, 27, 28, 29, 30, 31, 32, 33, 34, 35, 36, 37, 38, 39] (by decide +kernel) (by decide +kernel)
set_option maxRecDepth 20000 in
theorem gX7_oil_X7_known : GoodIn wsX7_oil (wsV RX7 146 RX7 yX7_known wsX7_known) := goodIn_app (goodIn_of _ (by decide +kernel)) ggX7_oil_X7_known
theorem dX7_oil_0 : decode cX7_oil 0 = .ok (.aload_n 0, 1) := by decide +kernel
theorem dX7_oil_1 : decode cX7_oil 1 = .ok (.iload_n 1, 1) := by decide +kernel
theorem dX7_oil_2 : decode cX7_oil 2 = .ok (.invokevirtual 118, 3) := by decide +kernel
theorem dX7_oil_5 : decode cX7_oil 5 = .ok (.ifCond .ne 5, 3) := by decide +kernel
theorem dX7_oil_8 : decode cX7_oil 8 = .ok (.iconst (-1), 1) := by decide +kernel
theorem dX7_oil_9 : decode cX7_oil 9 = .ok (.ireturn, 1) := by decide +kernel
theorem dX7_oil_10 : decode cX7_oil 10 = .ok (.aload_n 0, 1) := by decide +kernel
theorem dX7_oil_11 : decode cX7_oil 11 = .ok (.invokevirtual 146, 3) := by decide +kernel
theorem dX7_oil_14 : decode cX7_oil 14 = .ok (.aload_n 0, 1) := by decide +kernel
theorem dX7_oil_15 : decode cX7_oil 15 = .ok (.getfield 35, 3) := by decide +kernel
theorem dX7_oil_18 : decode cX7_oil 18 = .ok (.bipush 32, 2) := by decide +kernel
theorem dX7_oil_20 : decode cX7_oil 20 = .ok (.iload_n 1, 1) := by decide +kernel
theorem dX7_oil_21 : decode cX7_oil 21 = .ok (.iadd, 1) := by decide +kernel
theorem dX7_oil_22 : decode cX7_oil 22 = .ok (.aload_n 0, 1) := by decide +kernel
theorem dX7_oil_23 : decode cX7_oil 23 = .ok (.getfield 13, 3) := by decide +kernel
theorem dX7_oil_26 : decode cX7_oil 26 = .ok (.iconst 4, 1) := by decide +kernel
theorem dX7_oil_27 : decode cX7_oil 27 = .ok (.iaload, 1) := by decide +kernel
theorem dX7_oil_28 : decode cX7_oil 28 = .ok (.iastore, 1) := by decide +kernel
theorem dX7_oil_29 : decode cX7_oil 29 = .ok (.iconst 0, 1) := by decide +kernel
theorem dX7_oil_30 : decode cX7_oil 30 = .ok (.istore_n 2, 1) := by decide +kernel
theorem dX7_oil_31 : decode cX7_oil 31 = .ok (.iconst 0, 1) := by decide +kernel
theorem dX7_oil_32 : decode cX7_oil 32 = .ok (.istore_n 3, 1) := by decide +kernel
theorem dX7_oil_33 : decode cX7_oil 33 = .ok (.iload_n 3, 1) := by decide +kernel
theorem dX7_oil_34 : decode cX7_oil 34 = .ok (.aload_n 0, 1) := by decide +kernel
theorem dX7_oil_35 : decode cX7_oil 35 = .ok (.getfield 17, 3) := by decide +kernel
theorem dX7_oil_38 : decode cX7_oil 38 = .ok (.iconst 0, 1) := by decide +kernel
theorem dX7_oil_39 : decode cX7_oil 39 = .ok (.iaload, 1) := by decide +kernel
theorem dX7_oil_40 : decode cX7_oil 40 = .ok (.if_icmp .ge 29, 3) := by decide +kernel
theorem dX7_oil_43 : decode cX7_oil 43 = .ok (.iload_n 2, 1) := by decide +kernel
theorem dX7_oil_44 : decode cX7_oil 44 = .ok (.aload_n 0, 1) := by decide +kernel
theorem dX7_oil_45 : decode cX7_oil 45 = .ok (.getfield 35, 3) := by decide +kernel
theorem dX7_oil_48 : decode cX7_oil 48 = .ok (.bipush 32, 2) := by decide +kernel
theorem dX7_oil_50 : decode cX7_oil 50 = .ok (.iload_n 3, 1) := by decide +kernel
theorem dX7_oil_51 : decode cX7_oil 51 = .ok (.iadd, 1) := by decide +kernel
theorem dX7_oil_52 : decode cX7_oil 52 = .ok (.iaload, 1) := by decide +kernel
theorem dX7_oil_53 : decode cX7_oil 53 = .ok (.ifCond .le 7, 3) := by decide +kernel
theorem dX7_oil_56 : decode cX7_oil 56 = .ok (.iconst 1, 1) := by decide +kernel
theorem dX7_oil_57 : decode cX7_oil 57 = .ok (.goto 4, 3) := by decide +kernel
theorem dX7_oil_60 : decode cX7_oil 60 = .ok (.iconst 0, 1) := by decide +kernel
theorem dX7_oil_61 : decode cX7_oil 61 = .ok (.iadd, 1) := by decide +kernel
theorem dX7_oil_62 : decode cX7_oil 62 = .ok (.istore_n 2, 1) := by decide +kernel
theorem dX7_oil_63 : decode cX7_oil 63 = .ok (.iinc 3 1, 3) := by decide +kernel
theorem dX7_oil_66 : decode cX7_oil 66 = .ok (.goto (-33), 3) := by decide +kernel
theorem dX7_oil_69 : decode cX7_oil 69 = .ok (.iload_n 2, 1) := by decide +kernel
theorem dX7_oil_70 : decode cX7_oil 70 = .ok (.ireturn, 1) := by decide +kernel
theorem dX7_nights_0 : decode cX7_nights 0 = .ok (.bipush 46, 2) := by decide +kernel
theorem dX7_nights_2 : decode cX7_nights 2 = .ok (.iload_n 1, 1) := by decide +kernel
theorem dX7_nights_3 : decode cX7_nights 3 = .ok (.imul, 1) := by decide +kernel
theorem dX7_nights_4 : decode cX7_nights 4 = .ok (.istore_n 2, 1) := by decide +kernel
theorem dX7_nights_5 : decode cX7_nights 5 = .ok (.iconst 0, 1) := by decide +kernel
theorem dX7_nights_6 : decode cX7_nights 6 = .ok (.istore_n 3, 1) := by decide +kernel
theorem dX7_nights_7 : decode cX7_nights 7 = .ok (.iload_n 3, 1) := by decide +kernel
theorem dX7_nights_8 : decode cX7_nights 8 = .ok (.bipush 32, 2) := by decide +kernel
theorem dX7_nights_10 : decode cX7_nights 10 = .ok (.if_icmp .ge 23, 3) := by decide +kernel
theorem dX7_nights_13 : decode cX7_nights 13 = .ok (.aload_n 0, 1) := by decide +kernel
theorem dX7_nights_14 : decode cX7_nights 14 = .ok (.getfield 38, 3) := by decide +kernel
theorem dX7_nights_17 : decode cX7_nights 17 = .ok (.iload_n 3, 1) := by decide +kernel
theorem dX7_nights_18 : decode cX7_nights 18 = .ok (.aload_n 0, 1) := by decide +kernel
theorem dX7_nights_19 : decode cX7_nights 19 = .ok (.getfield 35, 3) := by decide +kernel
theorem dX7_nights_22 : decode cX7_nights 22 = .ok (.iload_n 2, 1) := by decide +kernel
theorem dX7_nights_23 : decode cX7_nights 23 = .ok (.iload_n 3, 1) := by decide +kernel
theorem dX7_nights_24 : decode cX7_nights 24 = .ok (.iadd, 1) := by decide +kernel
theorem dX7_nights_25 : decode cX7_nights 25 = .ok (.iaload, 1) := by decide +kernel
theorem dX7_nights_26 : decode cX7_nights 26 = .ok (.iastore, 1) := by decide +kernel
theorem dX7_nights_27 : decode cX7_nights 27 = .ok (.iinc 3 1, 3) := by decide +kernel
theorem dX7_nights_30 : decode cX7_nights 30 = .ok (.goto (-23), 3) := by decide +kernel
theorem dX7_nights_33 : decode cX7_nights 33 = .ok (.iconst 0, 1) := by decide +kernel
theorem dX7_nights_34 : decode cX7_nights 34 = .ok (.istore_n 3, 1) := by decide +kernel
theorem dX7_nights_35 : decode cX7_nights 35 = .ok (.iload_n 3, 1) := by decide +kernel
theorem dX7_nights_36 : decode cX7_nights 36 = .ok (.aload_n 0, 1) := by decide +kernel
theorem dX7_nights_37 : decode cX7_nights 37 = .ok (.getfield 17, 3) := by decide +kernel
theorem dX7_nights_40 : decode cX7_nights 40 = .ok (.iconst 0, 1) := by decide +kernel
theorem dX7_nights_41 : decode cX7_nights 41 = .ok (.iaload, 1) := by decide +kernel
theorem dX7_nights_42 : decode cX7_nights 42 = .ok (.if_icmp .ge 148, 3) := by decide +kernel
theorem dX7_nights_45 : decode cX7_nights 45 = .ok (.aload_n 0, 1) := by decide +kernel
theorem dX7_nights_46 : decode cX7_nights 46 = .ok (.getfield 20, 3) := by decide +kernel
theorem dX7_nights_49 : decode cX7_nights 49 = .ok (.iconst 3, 1) := by decide +kernel
theorem dX7_nights_50 : decode cX7_nights 50 = .ok (.iload_n 3, 1) := by decide +kernel
theorem dX7_nights_51 : decode cX7_nights 51 = .ok (.imul, 1) := by decide +kernel
theorem dX7_nights_52 : decode cX7_nights 52 = .ok (.iconst 2, 1) := by decide +kernel
theorem dX7_nights_53 : decode cX7_nights 53 = .ok (.iadd, 1) := by decide +kernel
theorem dX7_nights_54 : decode cX7_nights 54 = .ok (.iaload, 1) := by decide +kernel
theorem dX7_nights_55 : decode cX7_nights 55 = .ok (.istore 4, 2) := by decide +kernel
theorem dX7_nights_57 : decode cX7_nights 57 = .ok (.iload 4, 2) := by decide +kernel
theorem dX7_nights_59 : decode cX7_nights 59 = .ok (.iload_n 3, 1) := by decide +kernel
theorem dX7_nights_60 : decode cX7_nights 60 = .ok (.if_icmp .eq 36, 3) := by decide +kernel
theorem dX7_nights_63 : decode cX7_nights 63 = .ok (.aload_n 0, 1) := by decide +kernel
theorem dX7_nights_64 : decode cX7_nights 64 = .ok (.getfield 35, 3) := by decide +kernel
theorem dX7_nights_67 : decode cX7_nights 67 = .ok (.iload_n 2, 1) := by decide +kernel
theorem dX7_nights_68 : decode cX7_nights 68 = .ok (.bipush 32, 2) := by decide +kernel
theorem dX7_nights_70 : decode cX7_nights 70 = .ok (.iadd, 1) := by decide +kernel
theorem dX7_nights_71 : decode cX7_nights 71 = .ok (.iload_n 3, 1) := by decide +kernel
theorem dX7_nights_72 : decode cX7_nights 72 = .ok (.iadd, 1) := by decide +kernel
theorem dX7_nights_73 : decode cX7_nights 73 = .ok (.iaload, 1) := by decide +kernel
theorem dX7_nights_74 : decode cX7_nights 74 = .ok (.ifCond .ne 22, 3) := by decide +kernel
theorem dX7_nights_77 : decode cX7_nights 77 = .ok (.aload_n 0, 1) := by decide +kernel
theorem dX7_nights_78 : decode cX7_nights 78 = .ok (.getfield 35, 3) := by decide +kernel
theorem dX7_nights_81 : decode cX7_nights 81 = .ok (.iload_n 2, 1) := by decide +kernel
theorem dX7_nights_82 : decode cX7_nights 82 = .ok (.bipush 32, 2) := by decide +kernel
theorem dX7_nights_84 : decode cX7_nights 84 = .ok (.iadd, 1) := by decide +kernel
theorem dX7_nights_85 : decode cX7_nights 85 = .ok (.iload 4, 2) := by decide +kernel
theorem dX7_nights_87 : decode cX7_nights 87 = .ok (.iadd, 1) := by decide +kernel
theorem dX7_nights_88 : decode cX7_nights 88 = .ok (.iaload, 1) := by decide +kernel
theorem dX7_nights_89 : decode cX7_nights 89 = .ok (.ifCond .ne 7, 3) := by decide +kernel
theorem dX7_nights_92 : decode cX7_nights 92 = .ok (.iconst 1, 1) := by decide +kernel
theorem dX7_nights_93 : decode cX7_nights 93 = .ok (.goto 4, 3) := by decide +kernel
theorem dX7_nights_96 : decode cX7_nights 96 = .ok (.iconst 0, 1) := by decide +kernel
theorem dX7_nights_97 : decode cX7_nights 97 = .ok (.istore 5, 2) := by decide +kernel
theorem dX7_nights_99 : decode cX7_nights 99 = .ok (.iconst 0, 1) := by decide +kernel
theorem dX7_nights_100 : decode cX7_nights 100 = .ok (.istore 6, 2) := by decide +kernel
theorem dX7_nights_102 : decode cX7_nights 102 = .ok (.iload 6, 2) := by decide +kernel
theorem dX7_nights_104 : decode cX7_nights 104 = .ok (.aload_n 0, 1) := by decide +kernel
theorem dX7_nights_105 : decode cX7_nights 105 = .ok (.getfield 26, 3) := by decide +kernel
theorem dX7_nights_108 : decode cX7_nights 108 = .ok (.iconst 0, 1) := by decide +kernel
theorem dX7_nights_109 : decode cX7_nights 109 = .ok (.iaload, 1) := by decide +kernel
theorem dX7_nights_110 : decode cX7_nights 110 = .ok (.if_icmp .ge 74, 3) := by decide +kernel
theorem dX7_nights_113 : decode cX7_nights 113 = .ok (.iload 5, 2) := by decide +kernel
theorem dX7_nights_115 : decode cX7_nights 115 = .ok (.ifCond .eq 69, 3) := by decide +kernel
theorem dX7_nights_118 : decode cX7_nights 118 = .ok (.aload_n 0, 1) := by decide +kernel
theorem dX7_nights_119 : decode cX7_nights 119 = .ok (.getfield 38, 3) := by decide +kernel
theorem dX7_nights_122 : decode cX7_nights 122 = .ok (.iconst 4, 1) := by decide +kernel
theorem dX7_nights_123 : decode cX7_nights 123 = .ok (.iload_n 3, 1) := by decide +kernel
theorem dX7_nights_124 : decode cX7_nights 124 = .ok (.imul, 1) := by decide +kernel
theorem dX7_nights_125 : decode cX7_nights 125 = .ok (.iload 6, 2) := by decide +kernel
theorem dX7_nights_127 : decode cX7_nights 127 = .ok (.iadd, 1) := by decide +kernel
theorem dX7_nights_128 : decode cX7_nights 128 = .ok (.iaload, 1) := by decide +kernel
theorem dX7_nights_129 : decode cX7_nights 129 = .ok (.aload_n 0, 1) := by decide +kernel
theorem dX7_nights_130 : decode cX7_nights 130 = .ok (.getfield 13, 3) := by decide +kernel
theorem dX7_nights_133 : decode cX7_nights 133 = .ok (.iconst 1, 1) := by decide +kernel
theorem dX7_nights_134 : decode cX7_nights 134 = .ok (.iaload, 1) := by decide +kernel
theorem dX7_nights_135 : decode cX7_nights 135 = .ok (.imul, 1) := by decide +kernel
theorem dX7_nights_136 : decode cX7_nights 136 = .ok (.bipush 10, 2) := by decide +kernel
theorem dX7_nights_138 : decode cX7_nights 138 = .ok (.idiv, 1) := by decide +kernel
theorem dX7_nights_139 : decode cX7_nights 139 = .ok (.istore 7, 2) := by decide +kernel
theorem dX7_nights_141 : decode cX7_nights 141 = .ok (.aload_n 0, 1) := by decide +kernel
theorem dX7_nights_142 : decode cX7_nights 142 = .ok (.getfield 35, 3) := by decide +kernel
theorem dX7_nights_145 : decode cX7_nights 145 = .ok (.iload_n 2, 1) := by decide +kernel
theorem dX7_nights_146 : decode cX7_nights 146 = .ok (.iconst 4, 1) := by decide +kernel
theorem dX7_nights_147 : decode cX7_nights 147 = .ok (.iload_n 3, 1) := by decide +kernel
theorem dX7_nights_148 : decode cX7_nights 148 = .ok (.imul, 1) := by decide +kernel
theorem dX7_nights_149 : decode cX7_nights 149 = .ok (.iadd, 1) := by decide +kernel
theorem dX7_nights_150 : decode cX7_nights 150 = .ok (.iload 6, 2) := by decide +kernel
theorem dX7_nights_152 : decode cX7_nights 152 = .ok (.iadd, 1) := by decide +kernel
theorem dX7_nights_153 : decode cX7_nights 153 = .ok (.dup2, 1) := by decide +kernel
theorem dX7_nights_154 : decode cX7_nights 154 = .ok (.iaload, 1) := by decide +kernel
theorem dX7_nights_155 : decode cX7_nights 155 = .ok (.iload 7, 2) := by decide +kernel
theorem dX7_nights_157 : decode cX7_nights 157 = .ok (.isub, 1) := by decide +kernel
theorem dX7_nights_158 : decode cX7_nights 158 = .ok (.iastore, 1) := by decide +kernel
theorem dX7_nights_159 : decode cX7_nights 159 = .ok (.aload_n 0, 1) := by decide +kernel
theorem dX7_nights_160 : decode cX7_nights 160 = .ok (.getfield 35, 3) := by decide +kernel
theorem dX7_nights_163 : decode cX7_nights 163 = .ok (.iload_n 2, 1) := by decide +kernel
theorem dX7_nights_164 : decode cX7_nights 164 = .ok (.iconst 4, 1) := by decide +kernel
theorem dX7_nights_165 : decode cX7_nights 165 = .ok (.iload 4, 2) := by decide +kernel
theorem dX7_nights_167 : decode cX7_nights 167 = .ok (.imul, 1) := by decide +kernel
theorem dX7_nights_168 : decode cX7_nights 168 = .ok (.iadd, 1) := by decide +kernel
theorem dX7_nights_169 : decode cX7_nights 169 = .ok (.iload 6, 2) := by decide +kernel
theorem dX7_nights_171 : decode cX7_nights 171 = .ok (.iadd, 1) := by decide +kernel
theorem dX7_nights_172 : decode cX7_nights 172 = .ok (.dup2, 1) := by decide +kernel
theorem dX7_nights_173 : decode cX7_nights 173 = .ok (.iaload, 1) := by decide +kernel
theorem dX7_nights_174 : decode cX7_nights 174 = .ok (.iload 7, 2) := by decide +kernel
theorem dX7_nights_176 : decode cX7_nights 176 = .ok (.iadd, 1) := by decide +kernel
theorem dX7_nights_177 : decode cX7_nights 177 = .ok (.iastore, 1) := by decide +kernel
theorem dX7_nights_178 : decode cX7_nights 178 = .ok (.iinc 6 1, 3) := by decide +kernel
theorem dX7_nights_181 : decode cX7_nights 181 = .ok (.goto (-79), 3) := by decide +kernel
theorem dX7_nights_184 : decode cX7_nights 184 = .ok (.iinc 3 1, 3) := by decide +kernel
theorem dX7_nights_187 : decode cX7_nights 187 = .ok (.goto (-152), 3) := by decide +kernel
theorem dX7_nights_190 : decode cX7_nights 190 = .ok (.iconst 0, 1) := by decide +kernel
theorem dX7_nights_191 : decode cX7_nights 191 = .ok (.istore_n 3, 1) := by decide +kernel
theorem dX7_nights_192 : decode cX7_nights 192 = .ok (.iload_n 3, 1) := by decide +kernel
theorem dX7_nights_193 : decode cX7_nights 193 = .ok (.aload_n 0, 1) := by decide +kernel
theorem dX7_nights_194 : decode cX7_nights 194 = .ok (.getfield 17, 3) := by decide +kernel
theorem dX7_nights_197 : decode cX7_nights 197 = .ok (.iconst 0, 1) := by decide +kernel
theorem dX7_nights_198 : decode cX7_nights 198 = .ok (.iaload, 1) := by decide +kernel
theorem dX7_nights_199 : decode cX7_nights 199 = .ok (.if_icmp .ge 131, 3) := by decide +kernel
theorem dX7_nights_202 : decode cX7_nights 202 = .ok (.iconst 0, 1) := by decide +kernel
theorem dX7_nights_203 : decode cX7_nights 203 = .ok (.istore 4, 2) := by decide +kernel
theorem dX7_nights_205 : decode cX7_nights 205 = .ok (.iload 4, 2) := by decide +kernel
theorem dX7_nights_207 : decode cX7_nights 207 = .ok (.aload_n 0, 1) := by decide +kernel
theorem dX7_nights_208 : decode cX7_nights 208 = .ok (.getfield 26, 3) := by decide +kernel
theorem dX7_nights_211 : decode cX7_nights 211 = .ok (.iconst 0, 1) := by decide +kernel
theorem dX7_nights_212 : decode cX7_nights 212 = .ok (.iaload, 1) := by decide +kernel
theorem dX7_nights_213 : decode cX7_nights 213 = .ok (.if_icmp .ge 78, 3) := by decide +kernel
theorem dX7_nights_216 : decode cX7_nights 216 = .ok (.aload_n 0, 1) := by decide +kernel
theorem dX7_nights_217 : decode cX7_nights 217 = .ok (.getfield 35, 3) := by decide +kernel
theorem dX7_nights_220 : decode cX7_nights 220 = .ok (.iload_n 2, 1) := by decide +kernel
theorem dX7_nights_221 : decode cX7_nights 221 = .ok (.iconst 4, 1) := by decide +kernel
theorem dX7_nights_222 : decode cX7_nights 222 = .ok (.iload_n 3, 1) := by decide +kernel
theorem dX7_nights_223 : decode cX7_nights 223 = .ok (.imul, 1) := by decide +kernel
theorem dX7_nights_224 : decode cX7_nights 224 = .ok (.iadd, 1) := by decide +kernel
theorem dX7_nights_225 : decode cX7_nights 225 = .ok (.iload 4, 2) := by decide +kernel
theorem dX7_nights_227 : decode cX7_nights 227 = .ok (.iadd, 1) := by decide +kernel
theorem dX7_nights_228 : decode cX7_nights 228 = .ok (.iaload, 1) := by decide +kernel
theorem dX7_nights_229 : decode cX7_nights 229 = .ok (.aload_n 0, 1) := by decide +kernel
theorem dX7_nights_230 : decode cX7_nights 230 = .ok (.getfield 13, 3) := by decide +kernel
theorem dX7_nights_233 : decode cX7_nights 233 = .ok (.iconst 2, 1) := by decide +kernel
theorem dX7_nights_234 : decode cX7_nights 234 = .ok (.iaload, 1) := by decide +kernel
theorem dX7_nights_235 : decode cX7_nights 235 = .ok (.isub, 1) := by decide +kernel
theorem dX7_nights_236 : decode cX7_nights 236 = .ok (.istore 5, 2) := by decide +kernel
theorem dX7_nights_238 : decode cX7_nights 238 = .ok (.iload 5, 2) := by decide +kernel
theorem dX7_nights_240 : decode cX7_nights 240 = .ok (.ifCond .ge 7, 3) := by decide +kernel
theorem dX7_nights_243 : decode cX7_nights 243 = .ok (.iconst 0, 1) := by decide +kernel
theorem dX7_nights_244 : decode cX7_nights 244 = .ok (.goto 5, 3) := by decide +kernel
theorem dX7_nights_247 : decode cX7_nights 247 = .ok (.iload 5, 2) := by decide +kernel
theorem dX7_nights_249 : decode cX7_nights 249 = .ok (.aload_n 0, 1) := by decide +kernel
theorem dX7_nights_250 : decode cX7_nights 250 = .ok (.getfield 23, 3) := by decide +kernel
theorem dX7_nights_253 : decode cX7_nights 253 = .ok (.iload_n 3, 1) := by decide +kernel
theorem dX7_nights_254 : decode cX7_nights 254 = .ok (.iaload, 1) := by decide +kernel
theorem dX7_nights_255 : decode cX7_nights 255 = .ok (.iadd, 1) := by decide +kernel
theorem dX7_nights_256 : decode cX7_nights 256 = .ok (.istore 5, 2) := by decide +kernel
theorem dX7_nights_258 : decode cX7_nights 258 = .ok (.aload_n 0, 1) := by decide +kernel
theorem dX7_nights_259 : decode cX7_nights 259 = .ok (.getfield 35, 3) := by decide +kernel
theorem dX7_nights_262 : decode cX7_nights 262 = .ok (.iload_n 2, 1) := by decide +kernel
theorem dX7_nights_263 : decode cX7_nights 263 = .ok (.iconst 4, 1) := by decide +kernel
theorem dX7_nights_264 : decode cX7_nights 264 = .ok (.iload_n 3, 1) := by decide +kernel
theorem dX7_nights_265 : decode cX7_nights 265 = .ok (.imul, 1) := by decide +kernel
theorem dX7_nights_266 : decode cX7_nights 266 = .ok (.iadd, 1) := by decide +kernel
theorem dX7_nights_267 : decode cX7_nights 267 = .ok (.iload 4, 2) := by decide +kernel
theorem dX7_nights_269 : decode cX7_nights 269 = .ok (.iadd, 1) := by decide +kernel
theorem dX7_nights_270 : decode cX7_nights 270 = .ok (.iload 5, 2) := by decide +kernel
theorem dX7_nights_272 : decode cX7_nights 272 = .ok (.bipush 99, 2) := by decide +kernel
theorem dX7_nights_274 : decode cX7_nights 274 = .ok (.if_icmp .le 8, 3) := by decide +kernel
theorem dX7_nights_277 : decode cX7_nights 277 = .ok (.bipush 99, 2) := by decide +kernel
theorem dX7_nights_279 : decode cX7_nights 279 = .ok (.goto 5, 3) := by decide +kernel
theorem dX7_nights_282 : decode cX7_nights 282 = .ok (.iload 5, 2) := by decide +kernel
theorem dX7_nights_284 : decode cX7_nights 284 = .ok (.iastore, 1) := by decide +kernel
theorem dX7_nights_285 : decode cX7_nights 285 = .ok (.iinc 4 1, 3) := by decide +kernel
theorem dX7_nights_288 : decode cX7_nights 288 = .ok (.goto (-83), 3) := by decide +kernel
theorem dX7_nights_291 : decode cX7_nights 291 = .ok (.aload_n 0, 1) := by decide +kernel
theorem dX7_nights_292 : decode cX7_nights 292 = .ok (.getfield 35, 3) := by decide +kernel
theorem dX7_nights_295 : decode cX7_nights 295 = .ok (.iload_n 2, 1) := by decide +kernel
theorem dX7_nights_296 : decode cX7_nights 296 = .ok (.bipush 32, 2) := by decide +kernel
theorem dX7_nights_298 : decode cX7_nights 298 = .ok (.iadd, 1) := by decide +kernel
theorem dX7_nights_299 : decode cX7_nights 299 = .ok (.iload_n 3, 1) := by decide +kernel
theorem dX7_nights_300 : decode cX7_nights 300 = .ok (.iadd, 1) := by decide +kernel
theorem dX7_nights_301 : decode cX7_nights 301 = .ok (.dup2, 1) := by decide +kernel
theorem dX7_nights_302 : decode cX7_nights 302 = .ok (.iaload, 1) := by decide +kernel
theorem dX7_nights_303 : decode cX7_nights 303 = .ok (.aload_n 0, 1) := by decide +kernel
theorem dX7_nights_304 : decode cX7_nights 304 = .ok (.getfield 35, 3) := by decide +kernel
theorem dX7_nights_307 : decode cX7_nights 307 = .ok (.iload_n 2, 1) := by decide +kernel
theorem dX7_nights_308 : decode cX7_nights 308 = .ok (.bipush 32, 2) := by decide +kernel
theorem dX7_nights_310 : decode cX7_nights 310 = .ok (.iadd, 1) := by decide +kernel
theorem dX7_nights_311 : decode cX7_nights 311 = .ok (.iload_n 3, 1) := by decide +kernel
theorem dX7_nights_312 : decode cX7_nights 312 = .ok (.iadd, 1) := by decide +kernel
theorem dX7_nights_313 : decode cX7_nights 313 = .ok (.iaload, 1) := by decide +kernel
theorem dX7_nights_314 : decode cX7_nights 314 = .ok (.ifCond .le 7, 3) := by decide +kernel
theorem dX7_nights_317 : decode cX7_nights 317 = .ok (.iconst 1, 1) := by decide +kernel
theorem dX7_nights_318 : decode cX7_nights 318 = .ok (.goto 4, 3) := by decide +kernel
theorem dX7_nights_321 : decode cX7_nights 321 = .ok (.iconst 0, 1) := by decide +kernel
theorem dX7_nights_322 : decode cX7_nights 322 = .ok (.isub, 1) := by decide +kernel
theorem dX7_nights_323 : decode cX7_nights 323 = .ok (.iastore, 1) := by decide +kernel
theorem dX7_nights_324 : decode cX7_nights 324 = .ok (.iinc 3 1, 3) := by decide +kernel
theorem dX7_nights_327 : decode cX7_nights 327 = .ok (.goto (-135), 3) := by decide +kernel
theorem dX7_nights_330 : decode cX7_nights 330 = .ok (.aload_n 0, 1) := by decide +kernel
theorem dX7_nights_331 : decode cX7_nights 331 = .ok (.getfield 35, 3) := by decide +kernel
theorem dX7_nights_334 : decode cX7_nights 334 = .ok (.iload_n 2, 1) := by decide +kernel
theorem dX7_nights_335 : decode cX7_nights 335 = .ok (.bipush 45, 2) := by decide +kernel
theorem dX7_nights_337 : decode cX7_nights 337 = .ok (.iadd, 1) := by decide +kernel
theorem dX7_nights_338 : decode cX7_nights 338 = .ok (.dup2, 1) := by decide +kernel
theorem dX7_nights_339 : decode cX7_nights 339 = .ok (.iaload, 1) := by decide +kernel
theorem dX7_nights_340 : decode cX7_nights 340 = .ok (.iconst 1, 1) := by decide +kernel
theorem dX7_nights_341 : decode cX7_nights 341 = .ok (.iadd, 1) := by decide +kernel
theorem dX7_nights_342 : decode cX7_nights 342 = .ok (.iastore, 1) := by decide +kernel
theorem dX7_nights_343 : decode cX7_nights 343 = .ok (.return_, 1) := by decide +kernel
set_option maxRecDepth 20000 in
theorem ggX7_night_X7_in : GoodIn wsX7_night wsX7_in := goodIn_r _ [6] (by decide +kernel) (by decide +kernel)
set_option maxRecDepth 20000 in
theorem gX7_night_X7_in : GoodIn wsX7_night (va_wsS RX7 61 yX7_in wsX7_in) := goodIn_app (goodIn_of _ (by decide +kernel)) ggX7_night_X7_in
set_option maxRecDepth 20000 in
theorem ggX7_night_X7_known : GoodIn wsX7_night wsX7_known := goodIn_r _ [10, 11, 12, 13, 14, 5, 15, 2, 26, 27, 28, 29, 30, 31, 32, 33, 34, 35, 36, 37, 38, 39, 40, 41, 42, 43, 44] (by decide +kernel) (by decide +kernel)
set_option maxRecDepth 20000 in
theorem gX7_night_X7_known : GoodIn wsX7_night (wsV RX7 146 RX7 yX7_known wsX7_known) := goodIn_app (goodIn_of _ (by decide +kernel)) ggX7_night_X7_known
set_option maxRecDepth 20000 in
theorem ggX7_night_X7_nights : GoodIn wsX7_night wsX7_nights := goodIn_r _ [19, 20, 2, 21, 22, 23, 24, 25, 26, 27, 28, 29, 30, 31, 32, 33, 34, 35, 36, 37, 38, 39, 40, 41, 42, 43, 44] (by decide +kernel) (by decide +kernel)
set_option maxRecDepth 20000 in
theorem gX7_night_X7_nights : GoodIn wsX7_night (wsV RX7 155 RX7 yX7_nights wsX7_nights) := goodIn_app (goodIn_of _ (by decide +kernel)) ggX7_night_X7_nights
theorem dX7_night_0 : decode cX7_night 0 = .ok (.iload_n 1, 1) := by decide +kernel
theorem dX7_night_1 : decode cX7_night 1 = .ok (.i2l, 1) := by decide +kernel
theorem dX7_night_2 : decode cX7_night 2 = .ok (.lconst 1, 1) := by decide +kernel
theorem dX7_night_3 : decode cX7_night 3 = .ok (.ldc2_w 153, 3) := by decide +kernel
theorem dX7_night_6 : decode cX7_night 6 = .ok (.invokestatic 61, 3) := by decide +kernel
theorem dX7_night_9 : decode cX7_night 9 = .ok (.ifCond .ne 5, 3) := by decide +kernel
theorem dX7_night_12 : decode cX7_night 12 = .ok (.iconst (-1), 1) := by decide +kernel
theorem dX7_night_13 : decode cX7_night 13 = .ok (.ireturn, 1) := by decide +kernel
theorem dX7_night_14 : decode cX7_night 14 = .ok (.aload_n 0, 1) := by decide +kernel
theorem dX7_night_15 : decode cX7_night 15 = .ok (.getfield 35, 3) := by decide +kernel
theorem dX7_night_18 : decode cX7_night 18 = .ok (.bipush 45, 2) := by decide +kernel
theorem dX7_night_20 : decode cX7_night 20 = .ok (.iaload, 1) := by decide +kernel
theorem dX7_night_21 : decode cX7_night 21 = .ok (.iload_n 1, 1) := by decide +kernel
theorem dX7_night_22 : decode cX7_night 22 = .ok (.iadd, 1) := by decide +kernel
theorem dX7_night_23 : decode cX7_night 23 = .ok (.sipush 9999, 3) := by decide +kernel
theorem dX7_night_26 : decode cX7_night 26 = .ok (.if_icmp .le 6, 3) := by decide +kernel
theorem dX7_night_29 : decode cX7_night 29 = .ok (.bipush (-2), 2) := by decide +kernel
theorem dX7_night_31 : decode cX7_night 31 = .ok (.ireturn, 1) := by decide +kernel
theorem dX7_night_32 : decode cX7_night 32 = .ok (.aload_n 0, 1) := by decide +kernel
theorem dX7_night_33 : decode cX7_night 33 = .ok (.invokevirtual 146, 3) := by decide +kernel
theorem dX7_night_36 : decode cX7_night 36 = .ok (.iconst 0, 1) := by decide +kernel
theorem dX7_night_37 : decode cX7_night 37 = .ok (.istore_n 2, 1) := by decide +kernel
theorem dX7_night_38 : decode cX7_night 38 = .ok (.iload_n 2, 1) := by decide +kernel
theorem dX7_night_39 : decode cX7_night 39 = .ok (.iload_n 1, 1) := by decide +kernel
theorem dX7_night_40 : decode cX7_night 40 = .ok (.if_icmp .ge 14, 3) := by decide +kernel
theorem dX7_night_43 : decode cX7_night 43 = .ok (.aload_n 0, 1) := by decide +kernel
theorem dX7_night_44 : decode cX7_night 44 = .ok (.iconst 0, 1) := by decide +kernel
theorem dX7_night_45 : decode cX7_night 45 = .ok (.invokevirtual 155, 3) := by decide +kernel
theorem dX7_night_48 : decode cX7_night 48 = .ok (.iinc 2 1, 3) := by decide +kernel
theorem dX7_night_51 : decode cX7_night 51 = .ok (.goto (-13), 3) := by decide +kernel
theorem dX7_night_54 : decode cX7_night 54 = .ok (.aload_n 0, 1) := by decide +kernel
theorem dX7_night_55 : decode cX7_night 55 = .ok (.getfield 35, 3) := by decide +kernel
theorem dX7_night_58 : decode cX7_night 58 = .ok (.bipush 45, 2) := by decide +kernel
theorem dX7_night_60 : decode cX7_night 60 = .ok (.iaload, 1) := by decide +kernel
theorem dX7_night_61 : decode cX7_night 61 = .ok (.ireturn, 1) := by decide +kernel
set_option maxRecDepth 20000 in
theorem ggX7_undo_X7_copies : GoodIn wsX7_undo wsX7_copies := goodIn_r _ [6, 7, 8, 9, 10, 11, 12, 13, 14, 15, 16, 17, 18, 19, 20, 21, 22, 23, 24, 25, 26] (by decide +kernel) (by decide +kernel)
set_option maxRecDepth 20000 in
theorem gX7_undo_X7_copies : GoodIn wsX7_undo (wsV RX7 126 RX7 yX7_copies wsX7_copies) := goodIn_app (goodIn_of _ (by decide +kernel)) ggX7_undo_X7_copies
theorem dX7_undo_0 : decode cX7_undo 0 = .ok (.aload_n 0, 1) := by decide +kernel
theorem dX7_undo_1 : decode cX7_undo 1 = .ok (.getfield 103, 3) := by decide +kernel
theorem dX7_undo_4 : decode cX7_undo 4 = .ok (.ifCond .ne 6, 3) := by decide +kernel
theorem dX7_undo_7 : decode cX7_undo 7 = .ok (.bipush (-2), 2) := by decide +kernel
theorem dX7_undo_9 : decode cX7_undo 9 = .ok (.ireturn, 1) := by decide +kernel
theorem dX7_undo_10 : decode cX7_undo 10 = .ok (.aload_n 0, 1) := by decide +kernel
theorem dX7_undo_11 : decode cX7_undo 11 = .ok (.dup, 1) := by decide +kernel
theorem dX7_undo_12 : decode cX7_undo 12 = .ok (.getfield 103, 3) := by decide +kernel
theorem dX7_undo_15 : decode cX7_undo 15 = .ok (.iconst 1, 1) := by decide +kernel
theorem dX7_undo_16 : decode cX7_undo 16 = .ok (.isub, 1) := by decide +kernel
theorem dX7_undo_17 : decode cX7_undo 17 = .ok (.putfield 103, 3) := by decide +kernel
theorem dX7_undo_20 : decode cX7_undo 20 = .ok (.aload_n 0, 1) := by decide +kernel
theorem dX7_undo_21 : decode cX7_undo 21 = .ok (.iconst 3, 1) := by decide +kernel
theorem dX7_undo_22 : decode cX7_undo 22 = .ok (.aload_n 0, 1) := by decide +kernel
theorem dX7_undo_23 : decode cX7_undo 23 = .ok (.getfield 103, 3) := by decide +kernel
theorem dX7_undo_26 : decode cX7_undo 26 = .ok (.iadd, 1) := by decide +kernel
theorem dX7_undo_27 : decode cX7_undo 27 = .ok (.iconst 0, 1) := by decide +kernel
theorem dX7_undo_28 : decode cX7_undo 28 = .ok (.invokevirtual 126, 3) := by decide +kernel
theorem dX7_undo_31 : decode cX7_undo 31 = .ok (.aload_n 0, 1) := by decide +kernel
theorem dX7_undo_32 : decode cX7_undo 32 = .ok (.getfield 103, 3) := by decide +kernel
theorem dX7_undo_35 : decode cX7_undo 35 = .ok (.ireturn, 1) := by decide +kernel
set_option maxRecDepth 20000 in
theorem ggX7_ways_X7_costs : GoodIn wsX7_ways wsX7_costs := goodIn_r _ [9, 10, 11, 12, 13, 14, 15, 16, 17, 18, 19, 20, 21, 22, 23, 24, 25, 26, 27, 28, 29] (by decide +kernel) (by decide +kernel)
set_option maxRecDepth 20000 in
theorem gX7_ways_X7_costs : GoodIn wsX7_ways (wsV RX7 130 RX7 yX7_costs wsX7_costs) := goodIn_app (goodIn_of _ (by decide +kernel)) ggX7_ways_X7_costs
theorem dX7_ways_0 : decode cX7_ways 0 = .ok (.iconst 0, 1) := by decide +kernel
theorem dX7_ways_1 : decode cX7_ways 1 = .ok (.istore 5, 2) := by decide +kernel
theorem dX7_ways_3 : decode cX7_ways 3 = .ok (.iload 5, 2) := by decide +kernel
theorem dX7_ways_5 : decode cX7_ways 5 = .ok (.bipush 6, 2) := by decide +kernel
theorem dX7_ways_7 : decode cX7_ways 7 = .ok (.if_icmp .ge 28, 3) := by decide +kernel
theorem dX7_ways_10 : decode cX7_ways 10 = .ok (.aload_n 0, 1) := by decide +kernel
theorem dX7_ways_11 : decode cX7_ways 11 = .ok (.getfield 41, 3) := by decide +kernel
theorem dX7_ways_14 : decode cX7_ways 14 = .ok (.iload 5, 2) := by decide +kernel
theorem dX7_ways_16 : decode cX7_ways 16 = .ok (.iload 5, 2) := by decide +kernel
theorem dX7_ways_18 : decode cX7_ways 18 = .ok (.iload_n 3, 1) := by decide +kernel
theorem dX7_ways_19 : decode cX7_ways 19 = .ok (.if_icmp .ne 7, 3) := by decide +kernel
theorem dX7_ways_22 : decode cX7_ways 22 = .ok (.iconst 0, 1) := by decide +kernel
theorem dX7_ways_23 : decode cX7_ways 23 = .ok (.goto 5, 3) := by decide +kernel
theorem dX7_ways_26 : decode cX7_ways 26 = .ok (.ldc 159, 2) := by decide +kernel
theorem dX7_ways_28 : decode cX7_ways 28 = .ok (.iastore, 1) := by decide +kernel
theorem dX7_ways_29 : decode cX7_ways 29 = .ok (.iinc 5 1, 3) := by decide +kernel
theorem dX7_ways_32 : decode cX7_ways 32 = .ok (.goto (-29), 3) := by decide +kernel
theorem dX7_ways_35 : decode cX7_ways 35 = .ok (.iconst 0, 1) := by decide +kernel
theorem dX7_ways_36 : decode cX7_ways 36 = .ok (.istore 5, 2) := by decide +kernel
theorem dX7_ways_38 : decode cX7_ways 38 = .ok (.iload 5, 2) := by decide +kernel
theorem dX7_ways_40 : decode cX7_ways 40 = .ok (.bipush 6, 2) := by decide +kernel
theorem dX7_ways_42 : decode cX7_ways 42 = .ok (.if_icmp .ge 172, 3) := by decide +kernel
theorem dX7_ways_45 : decode cX7_ways 45 = .ok (.iconst 0, 1) := by decide +kernel
theorem dX7_ways_46 : decode cX7_ways 46 = .ok (.istore 6, 2) := by decide +kernel
theorem dX7_ways_48 : decode cX7_ways 48 = .ok (.iload 6, 2) := by decide +kernel
theorem dX7_ways_50 : decode cX7_ways 50 = .ok (.aload_n 0, 1) := by decide +kernel
theorem dX7_ways_51 : decode cX7_ways 51 = .ok (.getfield 17, 3) := by decide +kernel
theorem dX7_ways_54 : decode cX7_ways 54 = .ok (.iconst 0, 1) := by decide +kernel
theorem dX7_ways_55 : decode cX7_ways 55 = .ok (.iaload, 1) := by decide +kernel
theorem dX7_ways_56 : decode cX7_ways 56 = .ok (.if_icmp .ge 152, 3) := by decide +kernel
theorem dX7_ways_59 : decode cX7_ways 59 = .ok (.iload 4, 2) := by decide +kernel
theorem dX7_ways_61 : decode cX7_ways 61 = .ok (.iload 6, 2) := by decide +kernel
theorem dX7_ways_63 : decode cX7_ways 63 = .ok (.ishr, 1) := by decide +kernel
theorem dX7_ways_64 : decode cX7_ways 64 = .ok (.iconst 1, 1) := by decide +kernel
theorem dX7_ways_65 : decode cX7_ways 65 = .ok (.iand, 1) := by decide +kernel
theorem dX7_ways_66 : decode cX7_ways 66 = .ok (.iconst 1, 1) := by decide +kernel
theorem dX7_ways_67 : decode cX7_ways 67 = .ok (.if_icmp .ne 7, 3) := by decide +kernel
theorem dX7_ways_70 : decode cX7_ways 70 = .ok (.iconst 1, 1) := by decide +kernel
theorem dX7_ways_71 : decode cX7_ways 71 = .ok (.goto 11, 3) := by decide +kernel
theorem dX7_ways_74 : decode cX7_ways 74 = .ok (.aload_n 0, 1) := by decide +kernel
theorem dX7_ways_75 : decode cX7_ways 75 = .ok (.iload_n 1, 1) := by decide +kernel
theorem dX7_ways_76 : decode cX7_ways 76 = .ok (.iload 6, 2) := by decide +kernel
theorem dX7_ways_78 : decode cX7_ways 78 = .ok (.iload_n 2, 1) := by decide +kernel
theorem dX7_ways_79 : decode cX7_ways 79 = .ok (.invokevirtual 130, 3) := by decide +kernel
theorem dX7_ways_82 : decode cX7_ways 82 = .ok (.istore 7, 2) := by decide +kernel
theorem dX7_ways_84 : decode cX7_ways 84 = .ok (.aload_n 0, 1) := by decide +kernel
theorem dX7_ways_85 : decode cX7_ways 85 = .ok (.getfield 20, 3) := by decide +kernel
theorem dX7_ways_88 : decode cX7_ways 88 = .ok (.iconst 3, 1) := by decide +kernel
theorem dX7_ways_89 : decode cX7_ways 89 = .ok (.iload 6, 2) := by decide +kernel
theorem dX7_ways_91 : decode cX7_ways 91 = .ok (.imul, 1) := by decide +kernel
theorem dX7_ways_92 : decode cX7_ways 92 = .ok (.iaload, 1) := by decide +kernel
theorem dX7_ways_93 : decode cX7_ways 93 = .ok (.istore 8, 2) := by decide +kernel
theorem dX7_ways_95 : decode cX7_ways 95 = .ok (.aload_n 0, 1) := by decide +kernel
theorem dX7_ways_96 : decode cX7_ways 96 = .ok (.getfield 20, 3) := by decide +kernel
theorem dX7_ways_99 : decode cX7_ways 99 = .ok (.iconst 3, 1) := by decide +kernel
theorem dX7_ways_100 : decode cX7_ways 100 = .ok (.iload 6, 2) := by decide +kernel
theorem dX7_ways_102 : decode cX7_ways 102 = .ok (.imul, 1) := by decide +kernel
theorem dX7_ways_103 : decode cX7_ways 103 = .ok (.iconst 1, 1) := by decide +kernel
theorem dX7_ways_104 : decode cX7_ways 104 = .ok (.iadd, 1) := by decide +kernel
theorem dX7_ways_105 : decode cX7_ways 105 = .ok (.iaload, 1) := by decide +kernel
theorem dX7_ways_106 : decode cX7_ways 106 = .ok (.istore 9, 2) := by decide +kernel
theorem dX7_ways_108 : decode cX7_ways 108 = .ok (.aload_n 0, 1) := by decide +kernel
theorem dX7_ways_109 : decode cX7_ways 109 = .ok (.getfield 41, 3) := by decide +kernel
theorem dX7_ways_112 : decode cX7_ways 112 = .ok (.iload 8, 2) := by decide +kernel
theorem dX7_ways_114 : decode cX7_ways 114 = .ok (.aload_n 0, 1) := by decide +kernel
theorem dX7_ways_115 : decode cX7_ways 115 = .ok (.getfield 41, 3) := by decide +kernel
theorem dX7_ways_118 : decode cX7_ways 118 = .ok (.iload 9, 2) := by decide +kernel
theorem dX7_ways_120 : decode cX7_ways 120 = .ok (.iaload, 1) := by decide +kernel
theorem dX7_ways_121 : decode cX7_ways 121 = .ok (.iload 7, 2) := by decide +kernel
theorem dX7_ways_123 : decode cX7_ways 123 = .ok (.iadd, 1) := by decide +kernel
theorem dX7_ways_124 : decode cX7_ways 124 = .ok (.aload_n 0, 1) := by decide +kernel
theorem dX7_ways_125 : decode cX7_ways 125 = .ok (.getfield 41, 3) := by decide +kernel
theorem dX7_ways_128 : decode cX7_ways 128 = .ok (.iload 8, 2) := by decide +kernel
theorem dX7_ways_130 : decode cX7_ways 130 = .ok (.iaload, 1) := by decide +kernel
theorem dX7_ways_131 : decode cX7_ways 131 = .ok (.if_icmp .ge 16, 3) := by decide +kernel
theorem dX7_ways_134 : decode cX7_ways 134 = .ok (.aload_n 0, 1) := by decide +kernel
theorem dX7_ways_135 : decode cX7_ways 135 = .ok (.getfield 41, 3) := by decide +kernel
theorem dX7_ways_138 : decode cX7_ways 138 = .ok (.iload 9, 2) := by decide +kernel
theorem dX7_ways_140 : decode cX7_ways 140 = .ok (.iaload, 1) := by decide +kernel
theorem dX7_ways_141 : decode cX7_ways 141 = .ok (.iload 7, 2) := by decide +kernel
theorem dX7_ways_143 : decode cX7_ways 143 = .ok (.iadd, 1) := by decide +kernel
theorem dX7_ways_144 : decode cX7_ways 144 = .ok (.goto 10, 3) := by decide +kernel
theorem dX7_ways_147 : decode cX7_ways 147 = .ok (.aload_n 0, 1) := by decide +kernel
theorem dX7_ways_148 : decode cX7_ways 148 = .ok (.getfield 41, 3) := by decide +kernel
theorem dX7_ways_151 : decode cX7_ways 151 = .ok (.iload 8, 2) := by decide +kernel
theorem dX7_ways_153 : decode cX7_ways 153 = .ok (.iaload, 1) := by decide +kernel
theorem dX7_ways_154 : decode cX7_ways 154 = .ok (.iastore, 1) := by decide +kernel
theorem dX7_ways_155 : decode cX7_ways 155 = .ok (.aload_n 0, 1) := by decide +kernel
theorem dX7_ways_156 : decode cX7_ways 156 = .ok (.getfield 41, 3) := by decide +kernel
theorem dX7_ways_159 : decode cX7_ways 159 = .ok (.iload 9, 2) := by decide +kernel
theorem dX7_ways_161 : decode cX7_ways 161 = .ok (.aload_n 0, 1) := by decide +kernel
theorem dX7_ways_162 : decode cX7_ways 162 = .ok (.getfield 41, 3) := by decide +kernel
theorem dX7_ways_165 : decode cX7_ways 165 = .ok (.iload 8, 2) := by decide +kernel
theorem dX7_ways_167 : decode cX7_ways 167 = .ok (.iaload, 1) := by decide +kernel
theorem dX7_ways_168 : decode cX7_ways 168 = .ok (.iload 7, 2) := by decide +kernel
theorem dX7_ways_170 : decode cX7_ways 170 = .ok (.iadd, 1) := by decide +kernel
theorem dX7_ways_171 : decode cX7_ways 171 = .ok (.aload_n 0, 1) := by decide +kernel
theorem dX7_ways_172 : decode cX7_ways 172 = .ok (.getfield 41, 3) := by decide +kernel
theorem dX7_ways_175 : decode cX7_ways 175 = .ok (.iload 9, 2) := by decide +kernel
theorem dX7_ways_177 : decode cX7_ways 177 = .ok (.iaload, 1) := by decide +kernel
theorem dX7_ways_178 : decode cX7_ways 178 = .ok (.if_icmp .ge 16, 3) := by decide +kernel
theorem dX7_ways_181 : decode cX7_ways 181 = .ok (.aload_n 0, 1) := by decide +kernel
theorem dX7_ways_182 : decode cX7_ways 182 = .ok (.getfield 41, 3) := by decide +kernel
theorem dX7_ways_185 : decode cX7_ways 185 = .ok (.iload 8, 2) := by decide +kernel
theorem dX7_ways_187 : decode cX7_ways 187 = .ok (.iaload, 1) := by decide +kernel
theorem dX7_ways_188 : decode cX7_ways 188 = .ok (.iload 7, 2) := by decide +kernel
theorem dX7_ways_190 : decode cX7_ways 190 = .ok (.iadd, 1) := by decide +kernel
theorem dX7_ways_191 : decode cX7_ways 191 = .ok (.goto 10, 3) := by decide +kernel
theorem dX7_ways_194 : decode cX7_ways 194 = .ok (.aload_n 0, 1) := by decide +kernel
theorem dX7_ways_195 : decode cX7_ways 195 = .ok (.getfield 41, 3) := by decide +kernel
theorem dX7_ways_198 : decode cX7_ways 198 = .ok (.iload 9, 2) := by decide +kernel
theorem dX7_ways_200 : decode cX7_ways 200 = .ok (.iaload, 1) := by decide +kernel
theorem dX7_ways_201 : decode cX7_ways 201 = .ok (.iastore, 1) := by decide +kernel
theorem dX7_ways_202 : decode cX7_ways 202 = .ok (.iinc 6 1, 3) := by decide +kernel
theorem dX7_ways_205 : decode cX7_ways 205 = .ok (.goto (-157), 3) := by decide +kernel
theorem dX7_ways_208 : decode cX7_ways 208 = .ok (.iinc 5 1, 3) := by decide +kernel
theorem dX7_ways_211 : decode cX7_ways 211 = .ok (.goto (-173), 3) := by decide +kernel
theorem dX7_ways_214 : decode cX7_ways 214 = .ok (.return_, 1) := by decide +kernel
set_option maxRecDepth 20000 in
theorem ggX7_wayOf_X7_ways : GoodIn wsX7_wayOf wsX7_ways := goodIn_r _ [7, 1, 2, 8, 9, 10, 11, 12, 6, 13, 14, 15, 16, 17, 18, 19, 20, 21, 22, 23, 24, 25, 26, 27, 28, 29, 30, 31, 32, 33] (by decide +kernel) (by decide +kernel)
set_option maxRecDepth 20000 in
theorem gX7_wayOf_X7_ways : GoodIn wsX7_wayOf (wsV RX7 160 RX7 yX7_ways wsX7_ways) := goodIn_app (goodIn_of _ (by decide +kernel)) ggX7_wayOf_X7_ways
theorem dX7_wayOf_0 : decode cX7_wayOf 0 = .ok (.aload_n 0, 1) := by decide +kernel
theorem dX7_wayOf_1 : decode cX7_wayOf 1 = .ok (.iload_n 1, 1) := by decide +kernel
theorem dX7_wayOf_2 : decode cX7_wayOf 2 = .ok (.iload_n 2, 1) := by decide +kernel
theorem dX7_wayOf_3 : decode cX7_wayOf 3 = .ok (.iload 4, 2) := by decide +kernel
theorem dX7_wayOf_5 : decode cX7_wayOf 5 = .ok (.iconst 0, 1) := by decide +kernel
theorem dX7_wayOf_6 : decode cX7_wayOf 6 = .ok (.invokevirtual 160, 3) := by decide +kernel
theorem dX7_wayOf_9 : decode cX7_wayOf 9 = .ok (.aload_n 0, 1) := by decide +kernel
theorem dX7_wayOf_10 : decode cX7_wayOf 10 = .ok (.getfield 41, 3) := by decide +kernel
theorem dX7_wayOf_13 : decode cX7_wayOf 13 = .ok (.iload_n 3, 1) := by decide +kernel
theorem dX7_wayOf_14 : decode cX7_wayOf 14 = .ok (.iaload, 1) := by decide +kernel
theorem dX7_wayOf_15 : decode cX7_wayOf 15 = .ok (.ldc 159, 2) := by decide +kernel
theorem dX7_wayOf_17 : decode cX7_wayOf 17 = .ok (.if_icmp .ge 12, 3) := by decide +kernel
theorem dX7_wayOf_20 : decode cX7_wayOf 20 = .ok (.aload_n 0, 1) := by decide +kernel
theorem dX7_wayOf_21 : decode cX7_wayOf 21 = .ok (.getfield 41, 3) := by decide +kernel
theorem dX7_wayOf_24 : decode cX7_wayOf 24 = .ok (.iload_n 3, 1) := by decide +kernel
theorem dX7_wayOf_25 : decode cX7_wayOf 25 = .ok (.iaload, 1) := by decide +kernel
theorem dX7_wayOf_26 : decode cX7_wayOf 26 = .ok (.goto 5, 3) := by decide +kernel
theorem dX7_wayOf_29 : decode cX7_wayOf 29 = .ok (.bipush (-4), 2) := by decide +kernel
theorem dX7_wayOf_31 : decode cX7_wayOf 31 = .ok (.ireturn, 1) := by decide +kernel
set_option maxRecDepth 20000 in
theorem ggX7_way_X7_isLodger : GoodIn wsX7_way wsX7_isLodger := goodIn_r _ [5, 6, 7, 8, 4, 9, 32, 33, 34, 35, 36, 37, 38, 39, 40, 41, 42, 43, 44, 45, 46, 47, 48, 49, 50] (by decide +kernel) (by decide +kernel)
set_option maxRecDepth 20000 in
theorem gX7_way_X7_isLodger : GoodIn wsX7_way (wsV RX7 123 RX7 yX7_isLodger wsX7_isLodger) := goodIn_app (goodIn_of _ (by decide +kernel)) ggX7_way_X7_isLodger
set_option maxRecDepth 20000 in
theorem ggX7_way_X7_isRoom : GoodIn wsX7_way wsX7_isRoom := goodIn_r _ [13, 14, 7, 8, 4, 9, 32, 33, 34, 35, 36, 37, 38, 39, 40, 41, 42, 43, 44, 45, 46, 47, 48, 49, 50] (by decide +kernel) (by decide +kernel)
set_option maxRecDepth 20000 in
theorem gX7_way_X7_isRoom : GoodIn wsX7_way (wsV RX7 164 RX7 yX7_isRoom wsX7_isRoom) := goodIn_app (goodIn_of _ (by decide +kernel)) ggX7_way_X7_isRoom
set_option maxRecDepth 20000 in
theorem ggX7_way_X7_wayOf : GoodIn wsX7_way wsX7_wayOf := goodIn_r _ [18, 19, 20, 21, 22, 23, 4, 24, 25, 26, 27, 28, 29, 30, 31, 32, 33, 34, 35, 36, 37, 38, 39, 40, 41, 42, 43, 44, 45, 46, 47, 48, 49, 50] (by decide +kernel) (by decide +kernel)
set_option maxRecDepth 20000 in
theorem gX7_way_X7_wayOf : GoodIn wsX7_way (wsV RX7 167 RX7 yX7_wayOf wsX7_wayOf) := goodIn_app (goodIn_of _ (by decide +kernel)) ggX7_way_X7_wayOf
theorem dX7_way_0 : decode cX7_way 0 = .ok (.aload_n 0, 1) := by decide +kernel
theorem dX7_way_1 : decode cX7_way 1 = .ok (.iload_n 1, 1) := by decide +kernel
theorem dX7_way_2 : decode cX7_way 2 = .ok (.invokevirtual 123, 3) := by decide +kernel
theorem dX7_way_5 : decode cX7_way 5 = .ok (.ifCond .eq 30, 3) := by decide +kernel
theorem dX7_way_8 : decode cX7_way 8 = .ok (.aload_n 0, 1) := by decide +kernel
theorem dX7_way_9 : decode cX7_way 9 = .ok (.iload_n 2, 1) := by decide +kernel
theorem dX7_way_10 : decode cX7_way 10 = .ok (.invokevirtual 164, 3) := by decide +kernel
theorem dX7_way_13 : decode cX7_way 13 = .ok (.ifCond .eq 22, 3) := by decide +kernel
theorem dX7_way_16 : decode cX7_way 16 = .ok (.aload_n 0, 1) := by decide +kernel
theorem dX7_way_17 : decode cX7_way 17 = .ok (.iload_n 3, 1) := by decide +kernel
theorem dX7_way_18 : decode cX7_way 18 = .ok (.invokevirtual 164, 3) := by decide +kernel
theorem dX7_way_21 : decode cX7_way 21 = .ok (.ifCond .eq 14, 3) := by decide +kernel
theorem dX7_way_24 : decode cX7_way 24 = .ok (.aload_n 0, 1) := by decide +kernel
theorem dX7_way_25 : decode cX7_way 25 = .ok (.iconst 0, 1) := by decide +kernel
theorem dX7_way_26 : decode cX7_way 26 = .ok (.iload_n 1, 1) := by decide +kernel
theorem dX7_way_27 : decode cX7_way 27 = .ok (.iload_n 2, 1) := by decide +kernel
theorem dX7_way_28 : decode cX7_way 28 = .ok (.iload_n 3, 1) := by decide +kernel
theorem dX7_way_29 : decode cX7_way 29 = .ok (.invokevirtual 167, 3) := by decide +kernel
theorem dX7_way_32 : decode cX7_way 32 = .ok (.goto 4, 3) := by decide +kernel
theorem dX7_way_35 : decode cX7_way 35 = .ok (.iconst (-1), 1) := by decide +kernel
theorem dX7_way_36 : decode cX7_way 36 = .ok (.ireturn, 1) := by decide +kernel
set_option maxRecDepth 20000 in
theorem ggX7_firstOf_X7_wayOf : GoodIn wsX7_firstOf wsX7_wayOf := goodIn_r _ [7, 2, 8, 9, 10, 11, 6, 12, 1, 13, 14, 15, 16, 17, 18, 27, 28, 29, 30, 31, 32, 33, 34, 35, 36, 37, 38, 39, 40, 41, 42, 43, 44, 45] (by decide +kernel) (by decide +kernel)
set_option maxRecDepth 20000 in
theorem gX7_firstOf_X7_wayOf : GoodIn wsX7_firstOf (wsV RX7 167 RX7 yX7_wayOf wsX7_wayOf) := goodIn_app (goodIn_of _ (by decide +kernel)) ggX7_firstOf_X7_wayOf
set_option maxRecDepth 20000 in
theorem ggX7_firstOf_X7_isOf : GoodIn wsX7_firstOf wsX7_isOf := goodIn_r _ [22, 13, 27, 28, 29, 30, 31, 32, 33, 34, 35, 36, 37, 38, 39, 40, 41, 42, 43, 44, 45] (by decide +kernel) (by decide +kernel)
set_option maxRecDepth 20000 in
theorem gX7_firstOf_X7_isOf : GoodIn wsX7_firstOf (wsV RX7 142 RX7 yX7_isOf wsX7_isOf) := goodIn_app (goodIn_of _ (by decide +kernel)) ggX7_firstOf_X7_isOf
set_option maxRecDepth 20000 in
theorem ggX7_firstOf_X7_costs : GoodIn wsX7_firstOf wsX7_costs := goodIn_r _ [17, 18, 27, 28, 29, 30, 31, 32, 33, 34, 35, 36, 37, 38, 39, 40, 41, 42, 43, 44, 45] (by decide +kernel) (by decide +kernel)
set_option maxRecDepth 20000 in
theorem gX7_firstOf_X7_costs : GoodIn wsX7_firstOf (wsV RX7 130 RX7 yX7_costs wsX7_costs) := goodIn_app (goodIn_of _ (by decide +kernel)) ggX7_firstOf_X7_costs
set_option maxRecDepth 20000 in
theorem ggX7_firstOf_X7_over : GoodIn wsX7_firstOf wsX7_over := goodIn_r _ [26, 13, 27, 28, 29, 30, 31, 32, 33, 34, 35, 36, 37, 38, 39, 40, 41, 42, 43, 44, 45] (by decide +kernel) (by decide +kernel)
set_option maxRecDepth 20000 in
theorem gX7_firstOf_X7_over : GoodIn wsX7_firstOf (wsV RX7 138 RX7 yX7_over wsX7_over) := goodIn_app (goodIn_of _ (by decide +kernel)) ggX7_firstOf_X7_over
theorem dX7_firstOf_0 : decode cX7_firstOf 0 = .ok (.aload_n 0, 1) := by decide +kernel
theorem dX7_firstOf_1 : decode cX7_firstOf 1 = .ok (.iload_n 1, 1) := by decide +kernel
theorem dX7_firstOf_2 : decode cX7_firstOf 2 = .ok (.iload_n 2, 1) := by decide +kernel
theorem dX7_firstOf_3 : decode cX7_firstOf 3 = .ok (.iload_n 3, 1) := by decide +kernel
theorem dX7_firstOf_4 : decode cX7_firstOf 4 = .ok (.iload 4, 2) := by decide +kernel
theorem dX7_firstOf_6 : decode cX7_firstOf 6 = .ok (.invokevirtual 167, 3) := by decide +kernel
theorem dX7_firstOf_9 : decode cX7_firstOf 9 = .ok (.istore 5, 2) := by decide +kernel
theorem dX7_firstOf_11 : decode cX7_firstOf 11 = .ok (.iconst 0, 1) := by decide +kernel
theorem dX7_firstOf_12 : decode cX7_firstOf 12 = .ok (.istore 6, 2) := by decide +kernel
theorem dX7_firstOf_14 : decode cX7_firstOf 14 = .ok (.iload 6, 2) := by decide +kernel
theorem dX7_firstOf_16 : decode cX7_firstOf 16 = .ok (.aload_n 0, 1) := by decide +kernel
theorem dX7_firstOf_17 : decode cX7_firstOf 17 = .ok (.getfield 17, 3) := by decide +kernel
theorem dX7_firstOf_20 : decode cX7_firstOf 20 = .ok (.iconst 0, 1) := by decide +kernel
theorem dX7_firstOf_21 : decode cX7_firstOf 21 = .ok (.iaload, 1) := by decide +kernel
theorem dX7_firstOf_22 : decode cX7_firstOf 22 = .ok (.if_icmp .ge 53, 3) := by decide +kernel
theorem dX7_firstOf_25 : decode cX7_firstOf 25 = .ok (.iload 5, 2) := by decide +kernel
theorem dX7_firstOf_27 : decode cX7_firstOf 27 = .ok (.ifCond .le 48, 3) := by decide +kernel
theorem dX7_firstOf_30 : decode cX7_firstOf 30 = .ok (.aload_n 0, 1) := by decide +kernel
theorem dX7_firstOf_31 : decode cX7_firstOf 31 = .ok (.iload 6, 2) := by decide +kernel
theorem dX7_firstOf_33 : decode cX7_firstOf 33 = .ok (.iload_n 3, 1) := by decide +kernel
theorem dX7_firstOf_34 : decode cX7_firstOf 34 = .ok (.invokevirtual 142, 3) := by decide +kernel
theorem dX7_firstOf_37 : decode cX7_firstOf 37 = .ok (.ifCond .eq 32, 3) := by decide +kernel
theorem dX7_firstOf_40 : decode cX7_firstOf 40 = .ok (.aload_n 0, 1) := by decide +kernel
theorem dX7_firstOf_41 : decode cX7_firstOf 41 = .ok (.iload_n 1, 1) := by decide +kernel
theorem dX7_firstOf_42 : decode cX7_firstOf 42 = .ok (.iload 6, 2) := by decide +kernel
theorem dX7_firstOf_44 : decode cX7_firstOf 44 = .ok (.iload_n 2, 1) := by decide +kernel
theorem dX7_firstOf_45 : decode cX7_firstOf 45 = .ok (.invokevirtual 130, 3) := by decide +kernel
theorem dX7_firstOf_48 : decode cX7_firstOf 48 = .ok (.aload_n 0, 1) := by decide +kernel
theorem dX7_firstOf_49 : decode cX7_firstOf 49 = .ok (.getfield 41, 3) := by decide +kernel
theorem dX7_firstOf_52 : decode cX7_firstOf 52 = .ok (.aload_n 0, 1) := by decide +kernel
theorem dX7_firstOf_53 : decode cX7_firstOf 53 = .ok (.iload 6, 2) := by decide +kernel
theorem dX7_firstOf_55 : decode cX7_firstOf 55 = .ok (.iload_n 3, 1) := by decide +kernel
theorem dX7_firstOf_56 : decode cX7_firstOf 56 = .ok (.invokevirtual 138, 3) := by decide +kernel
theorem dX7_firstOf_59 : decode cX7_firstOf 59 = .ok (.iaload, 1) := by decide +kernel
theorem dX7_firstOf_60 : decode cX7_firstOf 60 = .ok (.iadd, 1) := by decide +kernel
theorem dX7_firstOf_61 : decode cX7_firstOf 61 = .ok (.iload 5, 2) := by decide +kernel
theorem dX7_firstOf_63 : decode cX7_firstOf 63 = .ok (.if_icmp .ne 6, 3) := by decide +kernel
theorem dX7_firstOf_66 : decode cX7_firstOf 66 = .ok (.iload 6, 2) := by decide +kernel
theorem dX7_firstOf_68 : decode cX7_firstOf 68 = .ok (.ireturn, 1) := by decide +kernel
theorem dX7_firstOf_69 : decode cX7_firstOf 69 = .ok (.iinc 6 1, 3) := by decide +kernel
theorem dX7_firstOf_72 : decode cX7_firstOf 72 = .ok (.goto (-58), 3) := by decide +kernel
theorem dX7_firstOf_75 : decode cX7_firstOf 75 = .ok (.bipush (-4), 2) := by decide +kernel
theorem dX7_firstOf_77 : decode cX7_firstOf 77 = .ok (.ireturn, 1) := by decide +kernel
set_option maxRecDepth 20000 in
theorem ggX7_first_X7_isLodger : GoodIn wsX7_first wsX7_isLodger := goodIn_r _ [5, 6, 7, 8, 4, 9, 44, 45, 46, 47, 48, 49, 50, 51, 52, 53, 54, 55, 56, 57, 58, 59, 60, 61, 62] (by decide +kernel) (by decide +kernel)
set_option maxRecDepth 20000 in
theorem gX7_first_X7_isLodger : GoodIn wsX7_first (wsV RX7 123 RX7 yX7_isLodger wsX7_isLodger) := goodIn_app (goodIn_of _ (by decide +kernel)) ggX7_first_X7_isLodger
set_option maxRecDepth 20000 in
theorem ggX7_first_X7_isRoom : GoodIn wsX7_first wsX7_isRoom := goodIn_r _ [13, 14, 7, 8, 4, 9, 44, 45, 46, 47, 48, 49, 50, 51, 52, 53, 54, 55, 56, 57, 58, 59, 60, 61, 62] (by decide +kernel) (by decide +kernel)
set_option maxRecDepth 20000 in
theorem gX7_first_X7_isRoom : GoodIn wsX7_first (wsV RX7 164 RX7 yX7_isRoom wsX7_isRoom) := goodIn_app (goodIn_of _ (by decide +kernel)) ggX7_first_X7_isRoom
set_option maxRecDepth 20000 in
theorem ggX7_first_X7_firstOf : GoodIn wsX7_first wsX7_firstOf := goodIn_r _ [18, 19, 20, 21, 22, 23, 4, 24, 25, 26, 27, 28, 29, 30, 31, 32, 33, 34, 35, 36, 37, 38, 39, 40, 41, 42, 43, 44, 45, 46, 47, 48, 49, 50, 51, 52, 53, 54, 55, 56, 57, 58, 59, 60, 61, 62] (by decide +kernel) (by decide +kernel)
set_option maxRecDepth 20000 in
theorem gX7_first_X7_firstOf : GoodIn wsX7_first (wsV RX7 171 RX7 yX7_firstOf wsX7_firstOf) := goodIn_app (goodIn_of _ (by decide +kernel)) ggX7_first_X7_firstOf
theorem dX7_first_0 : decode cX7_first 0 = .ok (.aload_n 0, 1) := by decide +kernel
theorem dX7_first_1 : decode cX7_first 1 = .ok (.iload_n 1, 1) := by decide +kernel
theorem dX7_first_2 : decode cX7_first 2 = .ok (.invokevirtual 123, 3) := by decide +kernel
theorem dX7_first_5 : decode cX7_first 5 = .ok (.ifCond .eq 30, 3) := by decide +kernel
theorem dX7_first_8 : decode cX7_first 8 = .ok (.aload_n 0, 1) := by decide +kernel
theorem dX7_first_9 : decode cX7_first 9 = .ok (.iload_n 2, 1) := by decide +kernel
theorem dX7_first_10 : decode cX7_first 10 = .ok (.invokevirtual 164, 3) := by decide +kernel
theorem dX7_first_13 : decode cX7_first 13 = .ok (.ifCond .eq 22, 3) := by decide +kernel
theorem dX7_first_16 : decode cX7_first 16 = .ok (.aload_n 0, 1) := by decide +kernel
theorem dX7_first_17 : decode cX7_first 17 = .ok (.iload_n 3, 1) := by decide +kernel
theorem dX7_first_18 : decode cX7_first 18 = .ok (.invokevirtual 164, 3) := by decide +kernel
theorem dX7_first_21 : decode cX7_first 21 = .ok (.ifCond .eq 14, 3) := by decide +kernel
theorem dX7_first_24 : decode cX7_first 24 = .ok (.aload_n 0, 1) := by decide +kernel
theorem dX7_first_25 : decode cX7_first 25 = .ok (.iconst 0, 1) := by decide +kernel
theorem dX7_first_26 : decode cX7_first 26 = .ok (.iload_n 1, 1) := by decide +kernel
theorem dX7_first_27 : decode cX7_first 27 = .ok (.iload_n 2, 1) := by decide +kernel
theorem dX7_first_28 : decode cX7_first 28 = .ok (.iload_n 3, 1) := by decide +kernel
theorem dX7_first_29 : decode cX7_first 29 = .ok (.invokevirtual 171, 3) := by decide +kernel
theorem dX7_first_32 : decode cX7_first 32 = .ok (.goto 4, 3) := by decide +kernel
theorem dX7_first_35 : decode cX7_first 35 = .ok (.iconst (-1), 1) := by decide +kernel
theorem dX7_first_36 : decode cX7_first 36 = .ok (.ireturn, 1) := by decide +kernel
theorem dX7_many_0 : decode cX7_many 0 = .ok (.iconst 0, 1) := by decide +kernel
theorem dX7_many_1 : decode cX7_many 1 = .ok (.istore_n 1, 1) := by decide +kernel
theorem dX7_many_2 : decode cX7_many 2 = .ok (.iconst 0, 1) := by decide +kernel
theorem dX7_many_3 : decode cX7_many 3 = .ok (.istore_n 2, 1) := by decide +kernel
theorem dX7_many_4 : decode cX7_many 4 = .ok (.iload_n 2, 1) := by decide +kernel
theorem dX7_many_5 : decode cX7_many 5 = .ok (.bipush 8, 2) := by decide +kernel
theorem dX7_many_7 : decode cX7_many 7 = .ok (.if_icmp .ge 17, 3) := by decide +kernel
theorem dX7_many_10 : decode cX7_many 10 = .ok (.iload_n 1, 1) := by decide +kernel
theorem dX7_many_11 : decode cX7_many 11 = .ok (.iload_n 0, 1) := by decide +kernel
theorem dX7_many_12 : decode cX7_many 12 = .ok (.iload_n 2, 1) := by decide +kernel
theorem dX7_many_13 : decode cX7_many 13 = .ok (.ishr, 1) := by decide +kernel
theorem dX7_many_14 : decode cX7_many 14 = .ok (.iconst 1, 1) := by decide +kernel
theorem dX7_many_15 : decode cX7_many 15 = .ok (.iand, 1) := by decide +kernel
theorem dX7_many_16 : decode cX7_many 16 = .ok (.iadd, 1) := by decide +kernel
theorem dX7_many_17 : decode cX7_many 17 = .ok (.istore_n 1, 1) := by decide +kernel
theorem dX7_many_18 : decode cX7_many 18 = .ok (.iinc 2 1, 3) := by decide +kernel
theorem dX7_many_21 : decode cX7_many 21 = .ok (.goto (-17), 3) := by decide +kernel
theorem dX7_many_24 : decode cX7_many 24 = .ok (.iload_n 1, 1) := by decide +kernel
theorem dX7_many_25 : decode cX7_many 25 = .ok (.ireturn, 1) := by decide +kernel
set_option maxRecDepth 20000 in
theorem ggX7_inTime_X7_isLodger : GoodIn wsX7_inTime wsX7_isLodger := goodIn_r _ [10, 11, 12, 13, 9, 14, 28, 29, 30, 31, 32, 33, 34, 35, 36, 37, 38, 39, 40, 41, 42, 43, 44, 45, 46] (by decide +kernel) (by decide +kernel)
set_option maxRecDepth 20000 in
theorem gX7_inTime_X7_isLodger : GoodIn wsX7_inTime (wsV RX7 123 RX7 yX7_isLodger wsX7_isLodger) := goodIn_app (goodIn_of _ (by decide +kernel)) ggX7_inTime_X7_isLodger
set_option maxRecDepth 20000 in
theorem ggX7_inTime_X7_in : GoodIn wsX7_inTime wsX7_in := goodIn_r _ [14] (by decide +kernel) (by decide +kernel)
set_option maxRecDepth 20000 in
theorem gX7_inTime_X7_in : GoodIn wsX7_inTime (va_wsS RX7 61 yX7_in wsX7_in) := goodIn_app (goodIn_of _ (by decide +kernel)) ggX7_inTime_X7_in
set_option maxRecDepth 20000 in
theorem ggX7_inTime_X7_ways : GoodIn wsX7_inTime wsX7_ways := goodIn_r _ [18, 4, 19, 2, 20, 21, 22, 23, 9, 24, 5, 28, 29, 30, 31, 32, 33, 34, 35, 36, 37, 38, 39, 40, 41, 42, 43, 44, 45, 46] (by decide +kernel) (by decide +kernel)
set_option maxRecDepth 20000 in
theorem gX7_inTime_X7_ways : GoodIn wsX7_inTime (wsV RX7 160 RX7 yX7_ways wsX7_ways) := goodIn_app (goodIn_of _ (by decide +kernel)) ggX7_inTime_X7_ways
set_option maxRecDepth 20000 in
theorem ggX7_inTime_X7_many : GoodIn wsX7_inTime wsX7_many := goodIn_r _ [27] (by decide +kernel) (by decide +kernel)
set_option maxRecDepth 20000 in
theorem gX7_inTime_X7_many : GoodIn wsX7_inTime (va_wsS RX7 176 yX7_many wsX7_many) := goodIn_app (goodIn_of _ (by decide +kernel)) ggX7_inTime_X7_many
theorem dX7_inTime_0 : decode cX7_inTime 0 = .ok (.aload_n 0, 1) := by decide +kernel
theorem dX7_inTime_1 : decode cX7_inTime 1 = .ok (.iload_n 1, 1) := by decide +kernel
theorem dX7_inTime_2 : decode cX7_inTime 2 = .ok (.invokevirtual 123, 3) := by decide +kernel
theorem dX7_inTime_5 : decode cX7_inTime 5 = .ok (.ifCond .eq 15, 3) := by decide +kernel
theorem dX7_inTime_8 : decode cX7_inTime 8 = .ok (.iload_n 2, 1) := by decide +kernel
theorem dX7_inTime_9 : decode cX7_inTime 9 = .ok (.i2l, 1) := by decide +kernel
theorem dX7_inTime_10 : decode cX7_inTime 10 = .ok (.lconst 0, 1) := by decide +kernel
theorem dX7_inTime_11 : decode cX7_inTime 11 = .ok (.ldc2_w 174, 3) := by decide +kernel
theorem dX7_inTime_14 : decode cX7_inTime 14 = .ok (.invokestatic 61, 3) := by decide +kernel
theorem dX7_inTime_17 : decode cX7_inTime 17 = .ok (.ifCond .ne 5, 3) := by decide +kernel
theorem dX7_inTime_20 : decode cX7_inTime 20 = .ok (.iconst (-1), 1) := by decide +kernel
theorem dX7_inTime_21 : decode cX7_inTime 21 = .ok (.ireturn, 1) := by decide +kernel
theorem dX7_inTime_22 : decode cX7_inTime 22 = .ok (.bipush (-4), 2) := by decide +kernel
theorem dX7_inTime_24 : decode cX7_inTime 24 = .ok (.istore_n 3, 1) := by decide +kernel
theorem dX7_inTime_25 : decode cX7_inTime 25 = .ok (.iconst 0, 1) := by decide +kernel
theorem dX7_inTime_26 : decode cX7_inTime 26 = .ok (.istore 4, 2) := by decide +kernel
theorem dX7_inTime_28 : decode cX7_inTime 28 = .ok (.iload 4, 2) := by decide +kernel
theorem dX7_inTime_30 : decode cX7_inTime 30 = .ok (.iconst 1, 1) := by decide +kernel
theorem dX7_inTime_31 : decode cX7_inTime 31 = .ok (.aload_n 0, 1) := by decide +kernel
theorem dX7_inTime_32 : decode cX7_inTime 32 = .ok (.getfield 17, 3) := by decide +kernel
theorem dX7_inTime_35 : decode cX7_inTime 35 = .ok (.iconst 0, 1) := by decide +kernel
theorem dX7_inTime_36 : decode cX7_inTime 36 = .ok (.iaload, 1) := by decide +kernel
theorem dX7_inTime_37 : decode cX7_inTime 37 = .ok (.ishl, 1) := by decide +kernel
theorem dX7_inTime_38 : decode cX7_inTime 38 = .ok (.if_icmp .ge 68, 3) := by decide +kernel
theorem dX7_inTime_41 : decode cX7_inTime 41 = .ok (.aload_n 0, 1) := by decide +kernel
theorem dX7_inTime_42 : decode cX7_inTime 42 = .ok (.iconst 0, 1) := by decide +kernel
theorem dX7_inTime_43 : decode cX7_inTime 43 = .ok (.iload_n 1, 1) := by decide +kernel
theorem dX7_inTime_44 : decode cX7_inTime 44 = .ok (.aload_n 0, 1) := by decide +kernel
theorem dX7_inTime_45 : decode cX7_inTime 45 = .ok (.getfield 29, 3) := by decide +kernel
theorem dX7_inTime_48 : decode cX7_inTime 48 = .ok (.iconst 3, 1) := by decide +kernel
theorem dX7_inTime_49 : decode cX7_inTime 49 = .ok (.iload_n 1, 1) := by decide +kernel
theorem dX7_inTime_50 : decode cX7_inTime 50 = .ok (.imul, 1) := by decide +kernel
theorem dX7_inTime_51 : decode cX7_inTime 51 = .ok (.iconst 2, 1) := by decide +kernel
theorem dX7_inTime_52 : decode cX7_inTime 52 = .ok (.iadd, 1) := by decide +kernel
theorem dX7_inTime_53 : decode cX7_inTime 53 = .ok (.iaload, 1) := by decide +kernel
theorem dX7_inTime_54 : decode cX7_inTime 54 = .ok (.iload 4, 2) := by decide +kernel
theorem dX7_inTime_56 : decode cX7_inTime 56 = .ok (.invokevirtual 160, 3) := by decide +kernel
theorem dX7_inTime_59 : decode cX7_inTime 59 = .ok (.aload_n 0, 1) := by decide +kernel
theorem dX7_inTime_60 : decode cX7_inTime 60 = .ok (.getfield 41, 3) := by decide +kernel
theorem dX7_inTime_63 : decode cX7_inTime 63 = .ok (.aload_n 0, 1) := by decide +kernel
theorem dX7_inTime_64 : decode cX7_inTime 64 = .ok (.getfield 35, 3) := by decide +kernel
theorem dX7_inTime_67 : decode cX7_inTime 67 = .ok (.bipush 40, 2) := by decide +kernel
theorem dX7_inTime_69 : decode cX7_inTime 69 = .ok (.iload_n 1, 1) := by decide +kernel
theorem dX7_inTime_70 : decode cX7_inTime 70 = .ok (.iadd, 1) := by decide +kernel
theorem dX7_inTime_71 : decode cX7_inTime 71 = .ok (.iaload, 1) := by decide +kernel
theorem dX7_inTime_72 : decode cX7_inTime 72 = .ok (.iaload, 1) := by decide +kernel
theorem dX7_inTime_73 : decode cX7_inTime 73 = .ok (.iload_n 2, 1) := by decide +kernel
theorem dX7_inTime_74 : decode cX7_inTime 74 = .ok (.if_icmp .gt 24, 3) := by decide +kernel
theorem dX7_inTime_77 : decode cX7_inTime 77 = .ok (.iload_n 3, 1) := by decide +kernel
theorem dX7_inTime_78 : decode cX7_inTime 78 = .ok (.ifCond .lt 15, 3) := by decide +kernel
theorem dX7_inTime_81 : decode cX7_inTime 81 = .ok (.iload 4, 2) := by decide +kernel
theorem dX7_inTime_83 : decode cX7_inTime 83 = .ok (.invokestatic 176, 3) := by decide +kernel
theorem dX7_inTime_86 : decode cX7_inTime 86 = .ok (.iload_n 3, 1) := by decide +kernel
theorem dX7_inTime_87 : decode cX7_inTime 87 = .ok (.invokestatic 176, 3) := by decide +kernel
theorem dX7_inTime_90 : decode cX7_inTime 90 = .ok (.if_icmp .ge 8, 3) := by decide +kernel
theorem dX7_inTime_93 : decode cX7_inTime 93 = .ok (.iload 4, 2) := by decide +kernel
theorem dX7_inTime_95 : decode cX7_inTime 95 = .ok (.goto 4, 3) := by decide +kernel
theorem dX7_inTime_98 : decode cX7_inTime 98 = .ok (.iload_n 3, 1) := by decide +kernel
theorem dX7_inTime_99 : decode cX7_inTime 99 = .ok (.istore_n 3, 1) := by decide +kernel
theorem dX7_inTime_100 : decode cX7_inTime 100 = .ok (.iinc 4 1, 3) := by decide +kernel
theorem dX7_inTime_103 : decode cX7_inTime 103 = .ok (.goto (-75), 3) := by decide +kernel
theorem dX7_inTime_106 : decode cX7_inTime 106 = .ok (.iload_n 3, 1) := by decide +kernel
theorem dX7_inTime_107 : decode cX7_inTime 107 = .ok (.ireturn, 1) := by decide +kernel
set_option maxRecDepth 20000 in
theorem ggX7_rooms_X7_in : GoodIn wsX7_rooms wsX7_in := goodIn_r _ [10] (by decide +kernel) (by decide +kernel)
set_option maxRecDepth 20000 in
theorem gX7_rooms_X7_in : GoodIn wsX7_rooms (va_wsS RX7 61 yX7_in wsX7_in) := goodIn_app (goodIn_of _ (by decide +kernel)) ggX7_rooms_X7_in
set_option maxRecDepth 20000 in
theorem ggX7_rooms_X7_tries : GoodIn wsX7_rooms wsX7_tries := goodIn_r _ [14, 2, 5, 15, 3, 6, 16, 17, 18, 9, 19, 20, 21, 22, 23, 24, 25, 26, 27, 28, 29, 30, 31, 32, 33, 34, 35, 36, 37, 38, 39, 40, 41, 42, 43, 44, 45, 46, 47, 48, 49, 50, 51] (by decide +kernel) (by decide +kernel)
set_option maxRecDepth 20000 in
theorem gX7_rooms_X7_tries : GoodIn wsX7_rooms (wsV RX7 184 RX7 yX7_tries wsX7_tries) := goodIn_app (goodIn_of _ (by decide +kernel)) ggX7_rooms_X7_tries
theorem dX7_rooms_0 : decode cX7_rooms 0 = .ok (.iload_n 1, 1) := by decide +kernel
theorem dX7_rooms_1 : decode cX7_rooms 1 = .ok (.i2l, 1) := by decide +kernel
theorem dX7_rooms_2 : decode cX7_rooms 2 = .ok (.ldc2_w 179, 3) := by decide +kernel
theorem dX7_rooms_5 : decode cX7_rooms 5 = .ok (.aload_n 0, 1) := by decide +kernel
theorem dX7_rooms_6 : decode cX7_rooms 6 = .ok (.getfield 26, 3) := by decide +kernel
theorem dX7_rooms_9 : decode cX7_rooms 9 = .ok (.iconst 0, 1) := by decide +kernel
theorem dX7_rooms_10 : decode cX7_rooms 10 = .ok (.iaload, 1) := by decide +kernel
theorem dX7_rooms_11 : decode cX7_rooms 11 = .ok (.iconst 1, 1) := by decide +kernel
theorem dX7_rooms_12 : decode cX7_rooms 12 = .ok (.isub, 1) := by decide +kernel
theorem dX7_rooms_13 : decode cX7_rooms 13 = .ok (.i2l, 1) := by decide +kernel
theorem dX7_rooms_14 : decode cX7_rooms 14 = .ok (.invokestatic 61, 3) := by decide +kernel
theorem dX7_rooms_17 : decode cX7_rooms 17 = .ok (.ifCond .ne 5, 3) := by decide +kernel
theorem dX7_rooms_20 : decode cX7_rooms 20 = .ok (.iconst (-1), 1) := by decide +kernel
theorem dX7_rooms_21 : decode cX7_rooms 21 = .ok (.ireturn, 1) := by decide +kernel
theorem dX7_rooms_22 : decode cX7_rooms 22 = .ok (.aload_n 0, 1) := by decide +kernel
theorem dX7_rooms_23 : decode cX7_rooms 23 = .ok (.iconst (-1), 1) := by decide +kernel
theorem dX7_rooms_24 : decode cX7_rooms 24 = .ok (.putfield 181, 3) := by decide +kernel
theorem dX7_rooms_27 : decode cX7_rooms 27 = .ok (.iconst 1, 1) := by decide +kernel
theorem dX7_rooms_28 : decode cX7_rooms 28 = .ok (.istore_n 2, 1) := by decide +kernel
theorem dX7_rooms_29 : decode cX7_rooms 29 = .ok (.iconst 0, 1) := by decide +kernel
theorem dX7_rooms_30 : decode cX7_rooms 30 = .ok (.istore_n 3, 1) := by decide +kernel
theorem dX7_rooms_31 : decode cX7_rooms 31 = .ok (.iload_n 3, 1) := by decide +kernel
theorem dX7_rooms_32 : decode cX7_rooms 32 = .ok (.aload_n 0, 1) := by decide +kernel
theorem dX7_rooms_33 : decode cX7_rooms 33 = .ok (.getfield 26, 3) := by decide +kernel
theorem dX7_rooms_36 : decode cX7_rooms 36 = .ok (.iconst 0, 1) := by decide +kernel
theorem dX7_rooms_37 : decode cX7_rooms 37 = .ok (.iaload, 1) := by decide +kernel
theorem dX7_rooms_38 : decode cX7_rooms 38 = .ok (.if_icmp .ge 18, 3) := by decide +kernel
theorem dX7_rooms_41 : decode cX7_rooms 41 = .ok (.iload_n 2, 1) := by decide +kernel
theorem dX7_rooms_42 : decode cX7_rooms 42 = .ok (.aload_n 0, 1) := by decide +kernel
theorem dX7_rooms_43 : decode cX7_rooms 43 = .ok (.getfield 13, 3) := by decide +kernel
theorem dX7_rooms_46 : decode cX7_rooms 46 = .ok (.iconst 0, 1) := by decide +kernel
theorem dX7_rooms_47 : decode cX7_rooms 47 = .ok (.iaload, 1) := by decide +kernel
theorem dX7_rooms_48 : decode cX7_rooms 48 = .ok (.imul, 1) := by decide +kernel
theorem dX7_rooms_49 : decode cX7_rooms 49 = .ok (.istore_n 2, 1) := by decide +kernel
theorem dX7_rooms_50 : decode cX7_rooms 50 = .ok (.iinc 3 1, 3) := by decide +kernel
theorem dX7_rooms_53 : decode cX7_rooms 53 = .ok (.goto (-22), 3) := by decide +kernel
theorem dX7_rooms_56 : decode cX7_rooms 56 = .ok (.iconst 0, 1) := by decide +kernel
theorem dX7_rooms_57 : decode cX7_rooms 57 = .ok (.istore_n 3, 1) := by decide +kernel
theorem dX7_rooms_58 : decode cX7_rooms 58 = .ok (.iload_n 3, 1) := by decide +kernel
theorem dX7_rooms_59 : decode cX7_rooms 59 = .ok (.iload_n 2, 1) := by decide +kernel
theorem dX7_rooms_60 : decode cX7_rooms 60 = .ok (.if_icmp .ge 64, 3) := by decide +kernel
theorem dX7_rooms_63 : decode cX7_rooms 63 = .ok (.iload_n 3, 1) := by decide +kernel
theorem dX7_rooms_64 : decode cX7_rooms 64 = .ok (.istore 4, 2) := by decide +kernel
theorem dX7_rooms_66 : decode cX7_rooms 66 = .ok (.aload_n 0, 1) := by decide +kernel
theorem dX7_rooms_67 : decode cX7_rooms 67 = .ok (.getfield 26, 3) := by decide +kernel
theorem dX7_rooms_70 : decode cX7_rooms 70 = .ok (.iconst 0, 1) := by decide +kernel
theorem dX7_rooms_71 : decode cX7_rooms 71 = .ok (.iaload, 1) := by decide +kernel
theorem dX7_rooms_72 : decode cX7_rooms 72 = .ok (.iconst 1, 1) := by decide +kernel
theorem dX7_rooms_73 : decode cX7_rooms 73 = .ok (.isub, 1) := by decide +kernel
theorem dX7_rooms_74 : decode cX7_rooms 74 = .ok (.istore 5, 2) := by decide +kernel
theorem dX7_rooms_76 : decode cX7_rooms 76 = .ok (.iload 5, 2) := by decide +kernel
theorem dX7_rooms_78 : decode cX7_rooms 78 = .ok (.ifCond .lt 36, 3) := by decide +kernel
theorem dX7_rooms_81 : decode cX7_rooms 81 = .ok (.aload_n 0, 1) := by decide +kernel
theorem dX7_rooms_82 : decode cX7_rooms 82 = .ok (.getfield 44, 3) := by decide +kernel
theorem dX7_rooms_85 : decode cX7_rooms 85 = .ok (.iload 5, 2) := by decide +kernel
theorem dX7_rooms_87 : decode cX7_rooms 87 = .ok (.iload 4, 2) := by decide +kernel
theorem dX7_rooms_89 : decode cX7_rooms 89 = .ok (.aload_n 0, 1) := by decide +kernel
theorem dX7_rooms_90 : decode cX7_rooms 90 = .ok (.getfield 13, 3) := by decide +kernel
theorem dX7_rooms_93 : decode cX7_rooms 93 = .ok (.iconst 0, 1) := by decide +kernel
theorem dX7_rooms_94 : decode cX7_rooms 94 = .ok (.iaload, 1) := by decide +kernel
theorem dX7_rooms_95 : decode cX7_rooms 95 = .ok (.irem, 1) := by decide +kernel
theorem dX7_rooms_96 : decode cX7_rooms 96 = .ok (.iastore, 1) := by decide +kernel
theorem dX7_rooms_97 : decode cX7_rooms 97 = .ok (.iload 4, 2) := by decide +kernel
theorem dX7_rooms_99 : decode cX7_rooms 99 = .ok (.aload_n 0, 1) := by decide +kernel
theorem dX7_rooms_100 : decode cX7_rooms 100 = .ok (.getfield 13, 3) := by decide +kernel
theorem dX7_rooms_103 : decode cX7_rooms 103 = .ok (.iconst 0, 1) := by decide +kernel
theorem dX7_rooms_104 : decode cX7_rooms 104 = .ok (.iaload, 1) := by decide +kernel
theorem dX7_rooms_105 : decode cX7_rooms 105 = .ok (.idiv, 1) := by decide +kernel
theorem dX7_rooms_106 : decode cX7_rooms 106 = .ok (.istore 4, 2) := by decide +kernel
theorem dX7_rooms_108 : decode cX7_rooms 108 = .ok (.iinc 5 (-1), 3) := by decide +kernel
theorem dX7_rooms_111 : decode cX7_rooms 111 = .ok (.goto (-35), 3) := by decide +kernel
theorem dX7_rooms_114 : decode cX7_rooms 114 = .ok (.aload_n 0, 1) := by decide +kernel
theorem dX7_rooms_115 : decode cX7_rooms 115 = .ok (.invokevirtual 184, 3) := by decide +kernel
theorem dX7_rooms_118 : decode cX7_rooms 118 = .ok (.iinc 3 1, 3) := by decide +kernel
theorem dX7_rooms_121 : decode cX7_rooms 121 = .ok (.goto (-63), 3) := by decide +kernel
theorem dX7_rooms_124 : decode cX7_rooms 124 = .ok (.aload_n 0, 1) := by decide +kernel
theorem dX7_rooms_125 : decode cX7_rooms 125 = .ok (.getfield 181, 3) := by decide +kernel
theorem dX7_rooms_128 : decode cX7_rooms 128 = .ok (.ifCond .ge 8, 3) := by decide +kernel
theorem dX7_rooms_131 : decode cX7_rooms 131 = .ok (.bipush (-4), 2) := by decide +kernel
theorem dX7_rooms_133 : decode cX7_rooms 133 = .ok (.goto 20, 3) := by decide +kernel
theorem dX7_rooms_136 : decode cX7_rooms 136 = .ok (.iload_n 1, 1) := by decide +kernel
theorem dX7_rooms_137 : decode cX7_rooms 137 = .ok (.ifCond .ge 10, 3) := by decide +kernel
theorem dX7_rooms_140 : decode cX7_rooms 140 = .ok (.aload_n 0, 1) := by decide +kernel
theorem dX7_rooms_141 : decode cX7_rooms 141 = .ok (.getfield 181, 3) := by decide +kernel
theorem dX7_rooms_144 : decode cX7_rooms 144 = .ok (.goto 9, 3) := by decide +kernel
theorem dX7_rooms_147 : decode cX7_rooms 147 = .ok (.aload_n 0, 1) := by decide +kernel
theorem dX7_rooms_148 : decode cX7_rooms 148 = .ok (.getfield 47, 3) := by decide +kernel
theorem dX7_rooms_151 : decode cX7_rooms 151 = .ok (.iload_n 1, 1) := by decide +kernel
theorem dX7_rooms_152 : decode cX7_rooms 152 = .ok (.iaload, 1) := by decide +kernel
theorem dX7_rooms_153 : decode cX7_rooms 153 = .ok (.ireturn, 1) := by decide +kernel
set_option maxRecDepth 20000 in
theorem ggX7_tries_X7_wayOf : GoodIn wsX7_tries wsX7_wayOf := goodIn_r _ [10, 11, 12, 13, 14, 15, 9, 16, 17, 18, 19, 20, 21, 22, 23, 24, 25, 26, 27, 28, 29, 30, 31, 32, 33, 34, 35, 36, 37, 38, 39, 40, 41, 42] (by decide +kernel) (by decide +kernel)
set_option maxRecDepth 20000 in
theorem gX7_tries_X7_wayOf : GoodIn wsX7_tries (wsV RX7 167 RX7 yX7_wayOf wsX7_wayOf) := goodIn_app (goodIn_of _ (by decide +kernel)) ggX7_tries_X7_wayOf
theorem dX7_tries_0 : decode cX7_tries 0 = .ok (.iconst 0, 1) := by decide +kernel
theorem dX7_tries_1 : decode cX7_tries 1 = .ok (.istore_n 1, 1) := by decide +kernel
theorem dX7_tries_2 : decode cX7_tries 2 = .ok (.iconst 0, 1) := by decide +kernel
theorem dX7_tries_3 : decode cX7_tries 3 = .ok (.istore_n 2, 1) := by decide +kernel
theorem dX7_tries_4 : decode cX7_tries 4 = .ok (.iconst 0, 1) := by decide +kernel
theorem dX7_tries_5 : decode cX7_tries 5 = .ok (.istore_n 3, 1) := by decide +kernel
theorem dX7_tries_6 : decode cX7_tries 6 = .ok (.iload_n 3, 1) := by decide +kernel
theorem dX7_tries_7 : decode cX7_tries 7 = .ok (.aload_n 0, 1) := by decide +kernel
theorem dX7_tries_8 : decode cX7_tries 8 = .ok (.getfield 26, 3) := by decide +kernel
theorem dX7_tries_11 : decode cX7_tries 11 = .ok (.iconst 0, 1) := by decide +kernel
theorem dX7_tries_12 : decode cX7_tries 12 = .ok (.iaload, 1) := by decide +kernel
theorem dX7_tries_13 : decode cX7_tries 13 = .ok (.if_icmp .ge 70, 3) := by decide +kernel
theorem dX7_tries_16 : decode cX7_tries 16 = .ok (.iload_n 1, 1) := by decide +kernel
theorem dX7_tries_17 : decode cX7_tries 17 = .ok (.aload_n 0, 1) := by decide +kernel
theorem dX7_tries_18 : decode cX7_tries 18 = .ok (.getfield 44, 3) := by decide +kernel
theorem dX7_tries_21 : decode cX7_tries 21 = .ok (.iload_n 3, 1) := by decide +kernel
theorem dX7_tries_22 : decode cX7_tries 22 = .ok (.iaload, 1) := by decide +kernel
theorem dX7_tries_23 : decode cX7_tries 23 = .ok (.ishr, 1) := by decide +kernel
theorem dX7_tries_24 : decode cX7_tries 24 = .ok (.iconst 1, 1) := by decide +kernel
theorem dX7_tries_25 : decode cX7_tries 25 = .ok (.iand, 1) := by decide +kernel
theorem dX7_tries_26 : decode cX7_tries 26 = .ok (.iconst 1, 1) := by decide +kernel
theorem dX7_tries_27 : decode cX7_tries 27 = .ok (.if_icmp .ne 4, 3) := by decide +kernel
theorem dX7_tries_30 : decode cX7_tries 30 = .ok (.return_, 1) := by decide +kernel
theorem dX7_tries_31 : decode cX7_tries 31 = .ok (.iload_n 1, 1) := by decide +kernel
theorem dX7_tries_32 : decode cX7_tries 32 = .ok (.iconst 1, 1) := by decide +kernel
theorem dX7_tries_33 : decode cX7_tries 33 = .ok (.aload_n 0, 1) := by decide +kernel
theorem dX7_tries_34 : decode cX7_tries 34 = .ok (.getfield 44, 3) := by decide +kernel
theorem dX7_tries_37 : decode cX7_tries 37 = .ok (.iload_n 3, 1) := by decide +kernel
theorem dX7_tries_38 : decode cX7_tries 38 = .ok (.iaload, 1) := by decide +kernel
theorem dX7_tries_39 : decode cX7_tries 39 = .ok (.ishl, 1) := by decide +kernel
theorem dX7_tries_40 : decode cX7_tries 40 = .ok (.ior, 1) := by decide +kernel
theorem dX7_tries_41 : decode cX7_tries 41 = .ok (.istore_n 1, 1) := by decide +kernel
theorem dX7_tries_42 : decode cX7_tries 42 = .ok (.aload_n 0, 1) := by decide +kernel
theorem dX7_tries_43 : decode cX7_tries 43 = .ok (.iconst 0, 1) := by decide +kernel
theorem dX7_tries_44 : decode cX7_tries 44 = .ok (.iload_n 3, 1) := by decide +kernel
theorem dX7_tries_45 : decode cX7_tries 45 = .ok (.aload_n 0, 1) := by decide +kernel
theorem dX7_tries_46 : decode cX7_tries 46 = .ok (.getfield 44, 3) := by decide +kernel
theorem dX7_tries_49 : decode cX7_tries 49 = .ok (.iload_n 3, 1) := by decide +kernel
theorem dX7_tries_50 : decode cX7_tries 50 = .ok (.iaload, 1) := by decide +kernel
theorem dX7_tries_51 : decode cX7_tries 51 = .ok (.aload_n 0, 1) := by decide +kernel
theorem dX7_tries_52 : decode cX7_tries 52 = .ok (.getfield 29, 3) := by decide +kernel
theorem dX7_tries_55 : decode cX7_tries 55 = .ok (.iconst 3, 1) := by decide +kernel
theorem dX7_tries_56 : decode cX7_tries 56 = .ok (.iload_n 3, 1) := by decide +kernel
theorem dX7_tries_57 : decode cX7_tries 57 = .ok (.imul, 1) := by decide +kernel
theorem dX7_tries_58 : decode cX7_tries 58 = .ok (.iconst 2, 1) := by decide +kernel
theorem dX7_tries_59 : decode cX7_tries 59 = .ok (.iadd, 1) := by decide +kernel
theorem dX7_tries_60 : decode cX7_tries 60 = .ok (.iaload, 1) := by decide +kernel
theorem dX7_tries_61 : decode cX7_tries 61 = .ok (.invokevirtual 167, 3) := by decide +kernel
theorem dX7_tries_64 : decode cX7_tries 64 = .ok (.istore 4, 2) := by decide +kernel
theorem dX7_tries_66 : decode cX7_tries 66 = .ok (.iload 4, 2) := by decide +kernel
theorem dX7_tries_68 : decode cX7_tries 68 = .ok (.ifCond .ge 4, 3) := by decide +kernel
theorem dX7_tries_71 : decode cX7_tries 71 = .ok (.return_, 1) := by decide +kernel
theorem dX7_tries_72 : decode cX7_tries 72 = .ok (.iload_n 2, 1) := by decide +kernel
theorem dX7_tries_73 : decode cX7_tries 73 = .ok (.iload 4, 2) := by decide +kernel
theorem dX7_tries_75 : decode cX7_tries 75 = .ok (.iadd, 1) := by decide +kernel
theorem dX7_tries_76 : decode cX7_tries 76 = .ok (.istore_n 2, 1) := by decide +kernel
theorem dX7_tries_77 : decode cX7_tries 77 = .ok (.iinc 3 1, 3) := by decide +kernel
theorem dX7_tries_80 : decode cX7_tries 80 = .ok (.goto (-74), 3) := by decide +kernel
theorem dX7_tries_83 : decode cX7_tries 83 = .ok (.aload_n 0, 1) := by decide +kernel
theorem dX7_tries_84 : decode cX7_tries 84 = .ok (.getfield 181, 3) := by decide +kernel
theorem dX7_tries_87 : decode cX7_tries 87 = .ok (.ifCond .lt 11, 3) := by decide +kernel
theorem dX7_tries_90 : decode cX7_tries 90 = .ok (.iload_n 2, 1) := by decide +kernel
theorem dX7_tries_91 : decode cX7_tries 91 = .ok (.aload_n 0, 1) := by decide +kernel
theorem dX7_tries_92 : decode cX7_tries 92 = .ok (.getfield 181, 3) := by decide +kernel
theorem dX7_tries_95 : decode cX7_tries 95 = .ok (.if_icmp .ge 33, 3) := by decide +kernel
theorem dX7_tries_98 : decode cX7_tries 98 = .ok (.aload_n 0, 1) := by decide +kernel
theorem dX7_tries_99 : decode cX7_tries 99 = .ok (.iload_n 2, 1) := by decide +kernel
theorem dX7_tries_100 : decode cX7_tries 100 = .ok (.putfield 181, 3) := by decide +kernel
theorem dX7_tries_103 : decode cX7_tries 103 = .ok (.iconst 0, 1) := by decide +kernel
theorem dX7_tries_104 : decode cX7_tries 104 = .ok (.istore_n 3, 1) := by decide +kernel
theorem dX7_tries_105 : decode cX7_tries 105 = .ok (.iload_n 3, 1) := by decide +kernel
theorem dX7_tries_106 : decode cX7_tries 106 = .ok (.iconst 4, 1) := by decide +kernel
theorem dX7_tries_107 : decode cX7_tries 107 = .ok (.if_icmp .ge 21, 3) := by decide +kernel
theorem dX7_tries_110 : decode cX7_tries 110 = .ok (.aload_n 0, 1) := by decide +kernel
theorem dX7_tries_111 : decode cX7_tries 111 = .ok (.getfield 47, 3) := by decide +kernel
theorem dX7_tries_114 : decode cX7_tries 114 = .ok (.iload_n 3, 1) := by decide +kernel
theorem dX7_tries_115 : decode cX7_tries 115 = .ok (.aload_n 0, 1) := by decide +kernel
theorem dX7_tries_116 : decode cX7_tries 116 = .ok (.getfield 44, 3) := by decide +kernel
theorem dX7_tries_119 : decode cX7_tries 119 = .ok (.iload_n 3, 1) := by decide +kernel
theorem dX7_tries_120 : decode cX7_tries 120 = .ok (.iaload, 1) := by decide +kernel
theorem dX7_tries_121 : decode cX7_tries 121 = .ok (.iastore, 1) := by decide +kernel
theorem dX7_tries_122 : decode cX7_tries 122 = .ok (.iinc 3 1, 3) := by decide +kernel
theorem dX7_tries_125 : decode cX7_tries 125 = .ok (.goto (-20), 3) := by decide +kernel
theorem dX7_tries_128 : decode cX7_tries 128 = .ok (.return_, 1) := by decide +kernel
set_option maxRecDepth 20000 in
theorem ggX7_behinds_X7_copies : GoodIn wsX7_behinds wsX7_copies := goodIn_r _ [7, 2, 17, 18, 19, 20, 21, 22, 23, 24, 25, 26, 27, 28, 29, 30, 31, 32, 33, 34, 35] (by decide +kernel) (by decide +kernel)
set_option maxRecDepth 20000 in
theorem gX7_behinds_X7_copies : GoodIn wsX7_behinds (wsV RX7 126 RX7 yX7_copies wsX7_copies) := goodIn_app (goodIn_of _ (by decide +kernel)) ggX7_behinds_X7_copies
set_option maxRecDepth 20000 in
theorem ggX7_behinds_X7_nights : GoodIn wsX7_behinds wsX7_nights := goodIn_r _ [11, 12, 2, 1, 13, 14, 15, 16, 17, 18, 19, 20, 21, 22, 23, 24, 25, 26, 27, 28, 29, 30, 31, 32, 33, 34, 35] (by decide +kernel) (by decide +kernel)
set_option maxRecDepth 20000 in
theorem gX7_behinds_X7_nights : GoodIn wsX7_behinds (wsV RX7 155 RX7 yX7_nights wsX7_nights) := goodIn_app (goodIn_of _ (by decide +kernel)) ggX7_behinds_X7_nights
theorem dX7_behinds_0 : decode cX7_behinds 0 = .ok (.aload_n 0, 1) := by decide +kernel
theorem dX7_behinds_1 : decode cX7_behinds 1 = .ok (.iconst 0, 1) := by decide +kernel
theorem dX7_behinds_2 : decode cX7_behinds 2 = .ok (.bipush 11, 2) := by decide +kernel
theorem dX7_behinds_4 : decode cX7_behinds 4 = .ok (.invokevirtual 126, 3) := by decide +kernel
theorem dX7_behinds_7 : decode cX7_behinds 7 = .ok (.iconst 0, 1) := by decide +kernel
theorem dX7_behinds_8 : decode cX7_behinds 8 = .ok (.istore_n 3, 1) := by decide +kernel
theorem dX7_behinds_9 : decode cX7_behinds 9 = .ok (.iload_n 3, 1) := by decide +kernel
theorem dX7_behinds_10 : decode cX7_behinds 10 = .ok (.aload_n 0, 1) := by decide +kernel
theorem dX7_behinds_11 : decode cX7_behinds 11 = .ok (.getfield 17, 3) := by decide +kernel
theorem dX7_behinds_14 : decode cX7_behinds 14 = .ok (.iconst 0, 1) := by decide +kernel
theorem dX7_behinds_15 : decode cX7_behinds 15 = .ok (.iaload, 1) := by decide +kernel
theorem dX7_behinds_16 : decode cX7_behinds 16 = .ok (.if_icmp .ge 43, 3) := by decide +kernel
theorem dX7_behinds_19 : decode cX7_behinds 19 = .ok (.aload_n 0, 1) := by decide +kernel
theorem dX7_behinds_20 : decode cX7_behinds 20 = .ok (.getfield 35, 3) := by decide +kernel
theorem dX7_behinds_23 : decode cX7_behinds 23 = .ok (.sipush 538, 3) := by decide +kernel
theorem dX7_behinds_26 : decode cX7_behinds 26 = .ok (.iload_n 3, 1) := by decide +kernel
theorem dX7_behinds_27 : decode cX7_behinds 27 = .ok (.iadd, 1) := by decide +kernel
theorem dX7_behinds_28 : decode cX7_behinds 28 = .ok (.iload_n 2, 1) := by decide +kernel
theorem dX7_behinds_29 : decode cX7_behinds 29 = .ok (.iload_n 3, 1) := by decide +kernel
theorem dX7_behinds_30 : decode cX7_behinds 30 = .ok (.ishr, 1) := by decide +kernel
theorem dX7_behinds_31 : decode cX7_behinds 31 = .ok (.iconst 1, 1) := by decide +kernel
theorem dX7_behinds_32 : decode cX7_behinds 32 = .ok (.iand, 1) := by decide +kernel
theorem dX7_behinds_33 : decode cX7_behinds 33 = .ok (.iconst 1, 1) := by decide +kernel
theorem dX7_behinds_34 : decode cX7_behinds 34 = .ok (.if_icmp .ne 8, 3) := by decide +kernel
theorem dX7_behinds_37 : decode cX7_behinds 37 = .ok (.bipush 100, 2) := by decide +kernel
theorem dX7_behinds_39 : decode cX7_behinds 39 = .ok (.goto 13, 3) := by decide +kernel
theorem dX7_behinds_42 : decode cX7_behinds 42 = .ok (.aload_n 0, 1) := by decide +kernel
theorem dX7_behinds_43 : decode cX7_behinds 43 = .ok (.getfield 35, 3) := by decide +kernel
theorem dX7_behinds_46 : decode cX7_behinds 46 = .ok (.sipush 538, 3) := by decide +kernel
theorem dX7_behinds_49 : decode cX7_behinds 49 = .ok (.iload_n 3, 1) := by decide +kernel
theorem dX7_behinds_50 : decode cX7_behinds 50 = .ok (.iadd, 1) := by decide +kernel
theorem dX7_behinds_51 : decode cX7_behinds 51 = .ok (.iaload, 1) := by decide +kernel
theorem dX7_behinds_52 : decode cX7_behinds 52 = .ok (.iastore, 1) := by decide +kernel
theorem dX7_behinds_53 : decode cX7_behinds 53 = .ok (.iinc 3 1, 3) := by decide +kernel
theorem dX7_behinds_56 : decode cX7_behinds 56 = .ok (.goto (-47), 3) := by decide +kernel
theorem dX7_behinds_59 : decode cX7_behinds 59 = .ok (.iconst 0, 1) := by decide +kernel
theorem dX7_behinds_60 : decode cX7_behinds 60 = .ok (.istore_n 3, 1) := by decide +kernel
theorem dX7_behinds_61 : decode cX7_behinds 61 = .ok (.iload_n 3, 1) := by decide +kernel
theorem dX7_behinds_62 : decode cX7_behinds 62 = .ok (.iload_n 1, 1) := by decide +kernel
theorem dX7_behinds_63 : decode cX7_behinds 63 = .ok (.if_icmp .ge 15, 3) := by decide +kernel
theorem dX7_behinds_66 : decode cX7_behinds 66 = .ok (.aload_n 0, 1) := by decide +kernel
theorem dX7_behinds_67 : decode cX7_behinds 67 = .ok (.bipush 11, 2) := by decide +kernel
theorem dX7_behinds_69 : decode cX7_behinds 69 = .ok (.invokevirtual 155, 3) := by decide +kernel
theorem dX7_behinds_72 : decode cX7_behinds 72 = .ok (.iinc 3 1, 3) := by decide +kernel
theorem dX7_behinds_75 : decode cX7_behinds 75 = .ok (.goto (-14), 3) := by decide +kernel
theorem dX7_behinds_78 : decode cX7_behinds 78 = .ok (.return_, 1) := by decide +kernel
set_option maxRecDepth 20000 in
theorem ggX7_isBehind_X7_in : GoodIn wsX7_isBehind wsX7_in := goodIn_r _ [5] (by decide +kernel) (by decide +kernel)
set_option maxRecDepth 20000 in
theorem gX7_isBehind_X7_in : GoodIn wsX7_isBehind (va_wsS RX7 61 yX7_in wsX7_in) := goodIn_app (goodIn_of _ (by decide +kernel)) ggX7_isBehind_X7_in
theorem dX7_isBehind_0 : decode cX7_isBehind 0 = .ok (.iload_n 0, 1) := by decide +kernel
theorem dX7_isBehind_1 : decode cX7_isBehind 1 = .ok (.i2l, 1) := by decide +kernel
theorem dX7_isBehind_2 : decode cX7_isBehind 2 = .ok (.lconst 0, 1) := by decide +kernel
theorem dX7_isBehind_3 : decode cX7_isBehind 3 = .ok (.ldc2_w 153, 3) := by decide +kernel
theorem dX7_isBehind_6 : decode cX7_isBehind 6 = .ok (.invokestatic 61, 3) := by decide +kernel
theorem dX7_isBehind_9 : decode cX7_isBehind 9 = .ok (.ireturn, 1) := by decide +kernel
set_option maxRecDepth 20000 in
theorem ggX7_behind_X7_isBehind : GoodIn wsX7_behind wsX7_isBehind := goodIn_r _ [5, 6, 7, 8, 4, 9] (by decide +kernel) (by decide +kernel)
set_option maxRecDepth 20000 in
theorem gX7_behind_X7_isBehind : GoodIn wsX7_behind (va_wsS RX7 187 yX7_isBehind wsX7_isBehind) := goodIn_app (goodIn_of _ (by decide +kernel)) ggX7_behind_X7_isBehind
set_option maxRecDepth 20000 in
theorem ggX7_behind_X7_isDoor : GoodIn wsX7_behind wsX7_isDoor := goodIn_r _ [13, 14, 7, 8, 4, 9, 36, 37, 38, 39, 40, 41, 42, 43, 44, 45, 46, 47, 48, 49, 50, 51, 52, 53, 54] (by decide +kernel) (by decide +kernel)
set_option maxRecDepth 20000 in
theorem gX7_behind_X7_isDoor : GoodIn wsX7_behind (wsV RX7 118 RX7 yX7_isDoor wsX7_isDoor) := goodIn_app (goodIn_of _ (by decide +kernel)) ggX7_behind_X7_isDoor
set_option maxRecDepth 20000 in
theorem ggX7_behind_X7_isLodger : GoodIn wsX7_behind wsX7_isLodger := goodIn_r _ [18, 19, 7, 8, 4, 9, 36, 37, 38, 39, 40, 41, 42, 43, 44, 45, 46, 47, 48, 49, 50, 51, 52, 53, 54] (by decide +kernel) (by decide +kernel)
set_option maxRecDepth 20000 in
theorem gX7_behind_X7_isLodger : GoodIn wsX7_behind (wsV RX7 123 RX7 yX7_isLodger wsX7_isLodger) := goodIn_app (goodIn_of _ (by decide +kernel)) ggX7_behind_X7_isLodger
set_option maxRecDepth 20000 in
theorem ggX7_behind_X7_behinds : GoodIn wsX7_behind wsX7_behinds := goodIn_r _ [23, 14, 1, 24, 25, 26, 4, 27, 28, 29, 30, 31, 32, 33, 19, 34, 35, 36, 37, 38, 39, 40, 41, 42, 43, 44, 45, 46, 47, 48, 49, 50, 51, 52, 53, 54] (by decide +kernel) (by decide +kernel)
set_option maxRecDepth 20000 in
theorem gX7_behind_X7_behinds : GoodIn wsX7_behind (wsV RX7 190 RX7 yX7_behinds wsX7_behinds) := goodIn_app (goodIn_of _ (by decide +kernel)) ggX7_behind_X7_behinds
theorem dX7_behind_0 : decode cX7_behind 0 = .ok (.iload_n 1, 1) := by decide +kernel
theorem dX7_behind_1 : decode cX7_behind 1 = .ok (.invokestatic 187, 3) := by decide +kernel
theorem dX7_behind_4 : decode cX7_behind 4 = .ok (.ifCond .eq 19, 3) := by decide +kernel
theorem dX7_behind_7 : decode cX7_behind 7 = .ok (.aload_n 0, 1) := by decide +kernel
theorem dX7_behind_8 : decode cX7_behind 8 = .ok (.iload_n 2, 1) := by decide +kernel
theorem dX7_behind_9 : decode cX7_behind 9 = .ok (.invokevirtual 118, 3) := by decide +kernel
theorem dX7_behind_12 : decode cX7_behind 12 = .ok (.ifCond .eq 11, 3) := by decide +kernel
theorem dX7_behind_15 : decode cX7_behind 15 = .ok (.aload_n 0, 1) := by decide +kernel
theorem dX7_behind_16 : decode cX7_behind 16 = .ok (.iload_n 3, 1) := by decide +kernel
theorem dX7_behind_17 : decode cX7_behind 17 = .ok (.invokevirtual 123, 3) := by decide +kernel
theorem dX7_behind_20 : decode cX7_behind 20 = .ok (.ifCond .ne 5, 3) := by decide +kernel
theorem dX7_behind_23 : decode cX7_behind 23 = .ok (.iconst (-1), 1) := by decide +kernel
theorem dX7_behind_24 : decode cX7_behind 24 = .ok (.ireturn, 1) := by decide +kernel
theorem dX7_behind_25 : decode cX7_behind 25 = .ok (.aload_n 0, 1) := by decide +kernel
theorem dX7_behind_26 : decode cX7_behind 26 = .ok (.iload_n 1, 1) := by decide +kernel
theorem dX7_behind_27 : decode cX7_behind 27 = .ok (.iconst 0, 1) := by decide +kernel
theorem dX7_behind_28 : decode cX7_behind 28 = .ok (.invokevirtual 190, 3) := by decide +kernel
theorem dX7_behind_31 : decode cX7_behind 31 = .ok (.aload_n 0, 1) := by decide +kernel
theorem dX7_behind_32 : decode cX7_behind 32 = .ok (.getfield 35, 3) := by decide +kernel
theorem dX7_behind_35 : decode cX7_behind 35 = .ok (.sipush 506, 3) := by decide +kernel
theorem dX7_behind_38 : decode cX7_behind 38 = .ok (.iconst 4, 1) := by decide +kernel
theorem dX7_behind_39 : decode cX7_behind 39 = .ok (.iload_n 2, 1) := by decide +kernel
theorem dX7_behind_40 : decode cX7_behind 40 = .ok (.imul, 1) := by decide +kernel
theorem dX7_behind_41 : decode cX7_behind 41 = .ok (.iadd, 1) := by decide +kernel
theorem dX7_behind_42 : decode cX7_behind 42 = .ok (.iload_n 3, 1) := by decide +kernel
theorem dX7_behind_43 : decode cX7_behind 43 = .ok (.iadd, 1) := by decide +kernel
theorem dX7_behind_44 : decode cX7_behind 44 = .ok (.iaload, 1) := by decide +kernel
theorem dX7_behind_45 : decode cX7_behind 45 = .ok (.ireturn, 1) := by decide +kernel
set_option maxRecDepth 20000 in
theorem ggX7_worst_X7_isBehind : GoodIn wsX7_worst wsX7_isBehind := goodIn_r _ [6, 7, 8, 9, 5, 10] (by decide +kernel) (by decide +kernel)
set_option maxRecDepth 20000 in
theorem gX7_worst_X7_isBehind : GoodIn wsX7_worst (va_wsS RX7 187 yX7_isBehind wsX7_isBehind) := goodIn_app (goodIn_of _ (by decide +kernel)) ggX7_worst_X7_isBehind
set_option maxRecDepth 20000 in
theorem ggX7_worst_X7_isLodger : GoodIn wsX7_worst wsX7_isLodger := goodIn_r _ [14, 15, 8, 9, 5, 10, 32, 33, 34, 35, 36, 37, 38, 39, 40, 41, 42, 43, 44, 45, 46, 47, 48, 49, 50] (by decide +kernel) (by decide +kernel)
set_option maxRecDepth 20000 in
theorem gX7_worst_X7_isLodger : GoodIn wsX7_worst (wsV RX7 123 RX7 yX7_isLodger wsX7_isLodger) := goodIn_app (goodIn_of _ (by decide +kernel)) ggX7_worst_X7_isLodger
set_option maxRecDepth 20000 in
theorem ggX7_worst_X7_behinds : GoodIn wsX7_worst wsX7_behinds := goodIn_r _ [19, 1, 2, 20, 21, 22, 5, 23, 24, 25, 26, 27, 28, 29, 15, 30, 31, 32, 33, 34, 35, 36, 37, 38, 39, 40, 41, 42, 43, 44, 45, 46, 47, 48, 49, 50] (by decide +kernel) (by decide +kernel)
set_option maxRecDepth 20000 in
theorem gX7_worst_X7_behinds : GoodIn wsX7_worst (wsV RX7 190 RX7 yX7_behinds wsX7_behinds) := goodIn_app (goodIn_of _ (by decide +kernel)) ggX7_worst_X7_behinds
theorem dX7_worst_0 : decode cX7_worst 0 = .ok (.iload_n 1, 1) := by decide +kernel
theorem dX7_worst_1 : decode cX7_worst 1 = .ok (.invokestatic 187, 3) := by decide +kernel
theorem dX7_worst_4 : decode cX7_worst 4 = .ok (.ifCond .eq 11, 3) := by decide +kernel
theorem dX7_worst_7 : decode cX7_worst 7 = .ok (.aload_n 0, 1) := by decide +kernel
theorem dX7_worst_8 : decode cX7_worst 8 = .ok (.iload_n 2, 1) := by decide +kernel
theorem dX7_worst_9 : decode cX7_worst 9 = .ok (.invokevirtual 123, 3) := by decide +kernel
theorem dX7_worst_12 : decode cX7_worst 12 = .ok (.ifCond .ne 5, 3) := by decide +kernel
theorem dX7_worst_15 : decode cX7_worst 15 = .ok (.iconst (-1), 1) := by decide +kernel
theorem dX7_worst_16 : decode cX7_worst 16 = .ok (.ireturn, 1) := by decide +kernel
theorem dX7_worst_17 : decode cX7_worst 17 = .ok (.aload_n 0, 1) := by decide +kernel
theorem dX7_worst_18 : decode cX7_worst 18 = .ok (.iload_n 1, 1) := by decide +kernel
theorem dX7_worst_19 : decode cX7_worst 19 = .ok (.iconst 0, 1) := by decide +kernel
theorem dX7_worst_20 : decode cX7_worst 20 = .ok (.invokevirtual 190, 3) := by decide +kernel
theorem dX7_worst_23 : decode cX7_worst 23 = .ok (.iconst 0, 1) := by decide +kernel
theorem dX7_worst_24 : decode cX7_worst 24 = .ok (.istore_n 3, 1) := by decide +kernel
theorem dX7_worst_25 : decode cX7_worst 25 = .ok (.iconst 1, 1) := by decide +kernel
theorem dX7_worst_26 : decode cX7_worst 26 = .ok (.istore 4, 2) := by decide +kernel
theorem dX7_worst_28 : decode cX7_worst 28 = .ok (.iload 4, 2) := by decide +kernel
theorem dX7_worst_30 : decode cX7_worst 30 = .ok (.aload_n 0, 1) := by decide +kernel
theorem dX7_worst_31 : decode cX7_worst 31 = .ok (.getfield 17, 3) := by decide +kernel
theorem dX7_worst_34 : decode cX7_worst 34 = .ok (.iconst 0, 1) := by decide +kernel
theorem dX7_worst_35 : decode cX7_worst 35 = .ok (.iaload, 1) := by decide +kernel
theorem dX7_worst_36 : decode cX7_worst 36 = .ok (.if_icmp .ge 48, 3) := by decide +kernel
theorem dX7_worst_39 : decode cX7_worst 39 = .ok (.aload_n 0, 1) := by decide +kernel
theorem dX7_worst_40 : decode cX7_worst 40 = .ok (.getfield 35, 3) := by decide +kernel
theorem dX7_worst_43 : decode cX7_worst 43 = .ok (.sipush 506, 3) := by decide +kernel
theorem dX7_worst_46 : decode cX7_worst 46 = .ok (.iconst 4, 1) := by decide +kernel
theorem dX7_worst_47 : decode cX7_worst 47 = .ok (.iload 4, 2) := by decide +kernel
theorem dX7_worst_49 : decode cX7_worst 49 = .ok (.imul, 1) := by decide +kernel
theorem dX7_worst_50 : decode cX7_worst 50 = .ok (.iadd, 1) := by decide +kernel
theorem dX7_worst_51 : decode cX7_worst 51 = .ok (.iload_n 2, 1) := by decide +kernel
theorem dX7_worst_52 : decode cX7_worst 52 = .ok (.iadd, 1) := by decide +kernel
theorem dX7_worst_53 : decode cX7_worst 53 = .ok (.iaload, 1) := by decide +kernel
theorem dX7_worst_54 : decode cX7_worst 54 = .ok (.aload_n 0, 1) := by decide +kernel
theorem dX7_worst_55 : decode cX7_worst 55 = .ok (.getfield 35, 3) := by decide +kernel
theorem dX7_worst_58 : decode cX7_worst 58 = .ok (.sipush 506, 3) := by decide +kernel
theorem dX7_worst_61 : decode cX7_worst 61 = .ok (.iconst 4, 1) := by decide +kernel
theorem dX7_worst_62 : decode cX7_worst 62 = .ok (.iload_n 3, 1) := by decide +kernel
theorem dX7_worst_63 : decode cX7_worst 63 = .ok (.imul, 1) := by decide +kernel
theorem dX7_worst_64 : decode cX7_worst 64 = .ok (.iadd, 1) := by decide +kernel
theorem dX7_worst_65 : decode cX7_worst 65 = .ok (.iload_n 2, 1) := by decide +kernel
theorem dX7_worst_66 : decode cX7_worst 66 = .ok (.iadd, 1) := by decide +kernel
theorem dX7_worst_67 : decode cX7_worst 67 = .ok (.iaload, 1) := by decide +kernel
theorem dX7_worst_68 : decode cX7_worst 68 = .ok (.if_icmp .le 8, 3) := by decide +kernel
theorem dX7_worst_71 : decode cX7_worst 71 = .ok (.iload 4, 2) := by decide +kernel
theorem dX7_worst_73 : decode cX7_worst 73 = .ok (.goto 4, 3) := by decide +kernel
theorem dX7_worst_76 : decode cX7_worst 76 = .ok (.iload_n 3, 1) := by decide +kernel
theorem dX7_worst_77 : decode cX7_worst 77 = .ok (.istore_n 3, 1) := by decide +kernel
theorem dX7_worst_78 : decode cX7_worst 78 = .ok (.iinc 4 1, 3) := by decide +kernel
theorem dX7_worst_81 : decode cX7_worst 81 = .ok (.goto (-53), 3) := by decide +kernel
theorem dX7_worst_84 : decode cX7_worst 84 = .ok (.iload_n 3, 1) := by decide +kernel
theorem dX7_worst_85 : decode cX7_worst 85 = .ok (.ireturn, 1) := by decide +kernel
set_option maxRecDepth 20000 in
theorem ggX7_stop_X7_isBehind : GoodIn wsX7_stop wsX7_isBehind := goodIn_r _ [7, 8, 9, 10, 6, 11] (by decide +kernel) (by decide +kernel)
set_option maxRecDepth 20000 in
theorem gX7_stop_X7_isBehind : GoodIn wsX7_stop (va_wsS RX7 187 yX7_isBehind wsX7_isBehind) := goodIn_app (goodIn_of _ (by decide +kernel)) ggX7_stop_X7_isBehind
set_option maxRecDepth 20000 in
theorem ggX7_stop_X7_isDoor : GoodIn wsX7_stop wsX7_isDoor := goodIn_r _ [15, 2, 9, 10, 6, 11, 40, 41, 42, 43, 44, 45, 46, 47, 48, 49, 50, 51, 52, 53, 54, 55, 56, 57, 58] (by decide +kernel) (by decide +kernel)
set_option maxRecDepth 20000 in
theorem gX7_stop_X7_isDoor : GoodIn wsX7_stop (wsV RX7 118 RX7 yX7_isDoor wsX7_isDoor) := goodIn_app (goodIn_of _ (by decide +kernel)) ggX7_stop_X7_isDoor
set_option maxRecDepth 20000 in
theorem ggX7_stop_X7_isLodger : GoodIn wsX7_stop wsX7_isLodger := goodIn_r _ [19, 20, 9, 10, 6, 11, 40, 41, 42, 43, 44, 45, 46, 47, 48, 49, 50, 51, 52, 53, 54, 55, 56, 57, 58] (by decide +kernel) (by decide +kernel)
set_option maxRecDepth 20000 in
theorem gX7_stop_X7_isLodger : GoodIn wsX7_stop (wsV RX7 123 RX7 yX7_isLodger wsX7_isLodger) := goodIn_app (goodIn_of _ (by decide +kernel)) ggX7_stop_X7_isLodger
set_option maxRecDepth 20000 in
theorem ggX7_stop_X7_in : GoodIn wsX7_stop wsX7_in := goodIn_r _ [11] (by decide +kernel) (by decide +kernel)
set_option maxRecDepth 20000 in
theorem gX7_stop_X7_in : GoodIn wsX7_stop (va_wsS RX7 61 yX7_in wsX7_in) := goodIn_app (goodIn_of _ (by decide +kernel)) ggX7_stop_X7_in
set_option maxRecDepth 20000 in
theorem ggX7_stop_X7_many : GoodIn wsX7_stop wsX7_many := goodIn_r _ [23] (by decide +kernel) (by decide +kernel)
set_option maxRecDepth 20000 in
theorem gX7_stop_X7_many : GoodIn wsX7_stop (va_wsS RX7 176 yX7_many wsX7_many) := goodIn_app (goodIn_of _ (by decide +kernel)) ggX7_stop_X7_many
set_option maxRecDepth 20000 in
theorem ggX7_stop_X7_behinds : GoodIn wsX7_stop wsX7_behinds := goodIn_r _ [27, 2, 3, 28, 29, 30, 6, 31, 32, 33, 34, 35, 36, 37, 20, 38, 39, 40, 41, 42, 43, 44, 45, 46, 47, 48, 49, 50, 51, 52, 53, 54, 55, 56, 57, 58] (by decide +kernel) (by decide +kernel)
set_option maxRecDepth 20000 in
theorem gX7_stop_X7_behinds : GoodIn wsX7_stop (wsV RX7 190 RX7 yX7_behinds wsX7_behinds) := goodIn_app (goodIn_of _ (by decide +kernel)) ggX7_stop_X7_behinds
theorem dX7_stop_0 : decode cX7_stop 0 = .ok (.iload_n 1, 1) := by decide +kernel
theorem dX7_stop_1 : decode cX7_stop 1 = .ok (.invokestatic 187, 3) := by decide +kernel
theorem dX7_stop_4 : decode cX7_stop 4 = .ok (.ifCond .eq 32, 3) := by decide +kernel
theorem dX7_stop_7 : decode cX7_stop 7 = .ok (.aload_n 0, 1) := by decide +kernel
theorem dX7_stop_8 : decode cX7_stop 8 = .ok (.iload_n 2, 1) := by decide +kernel
theorem dX7_stop_9 : decode cX7_stop 9 = .ok (.invokevirtual 118, 3) := by decide +kernel
theorem dX7_stop_12 : decode cX7_stop 12 = .ok (.ifCond .eq 24, 3) := by decide +kernel
theorem dX7_stop_15 : decode cX7_stop 15 = .ok (.aload_n 0, 1) := by decide +kernel
theorem dX7_stop_16 : decode cX7_stop 16 = .ok (.iload_n 3, 1) := by decide +kernel
theorem dX7_stop_17 : decode cX7_stop 17 = .ok (.invokevirtual 123, 3) := by decide +kernel
theorem dX7_stop_20 : decode cX7_stop 20 = .ok (.ifCond .eq 16, 3) := by decide +kernel
theorem dX7_stop_23 : decode cX7_stop 23 = .ok (.iload 4, 2) := by decide +kernel
theorem dX7_stop_25 : decode cX7_stop 25 = .ok (.i2l, 1) := by decide +kernel
theorem dX7_stop_26 : decode cX7_stop 26 = .ok (.lconst 1, 1) := by decide +kernel
theorem dX7_stop_27 : decode cX7_stop 27 = .ok (.ldc2_w 193, 3) := by decide +kernel
theorem dX7_stop_30 : decode cX7_stop 30 = .ok (.invokestatic 61, 3) := by decide +kernel
theorem dX7_stop_33 : decode cX7_stop 33 = .ok (.ifCond .ne 5, 3) := by decide +kernel
theorem dX7_stop_36 : decode cX7_stop 36 = .ok (.iconst (-1), 1) := by decide +kernel
theorem dX7_stop_37 : decode cX7_stop 37 = .ok (.ireturn, 1) := by decide +kernel
theorem dX7_stop_38 : decode cX7_stop 38 = .ok (.bipush (-4), 2) := by decide +kernel
theorem dX7_stop_40 : decode cX7_stop 40 = .ok (.istore 5, 2) := by decide +kernel
theorem dX7_stop_42 : decode cX7_stop 42 = .ok (.iconst 0, 1) := by decide +kernel
theorem dX7_stop_43 : decode cX7_stop 43 = .ok (.istore 6, 2) := by decide +kernel
theorem dX7_stop_45 : decode cX7_stop 45 = .ok (.iload 6, 2) := by decide +kernel
theorem dX7_stop_47 : decode cX7_stop 47 = .ok (.iconst 1, 1) := by decide +kernel
theorem dX7_stop_48 : decode cX7_stop 48 = .ok (.aload_n 0, 1) := by decide +kernel
theorem dX7_stop_49 : decode cX7_stop 49 = .ok (.getfield 17, 3) := by decide +kernel
theorem dX7_stop_52 : decode cX7_stop 52 = .ok (.iconst 0, 1) := by decide +kernel
theorem dX7_stop_53 : decode cX7_stop 53 = .ok (.iaload, 1) := by decide +kernel
theorem dX7_stop_54 : decode cX7_stop 54 = .ok (.ishl, 1) := by decide +kernel
theorem dX7_stop_55 : decode cX7_stop 55 = .ok (.if_icmp .ge 71, 3) := by decide +kernel
theorem dX7_stop_58 : decode cX7_stop 58 = .ok (.iload 6, 2) := by decide +kernel
theorem dX7_stop_60 : decode cX7_stop 60 = .ok (.iload_n 2, 1) := by decide +kernel
theorem dX7_stop_61 : decode cX7_stop 61 = .ok (.ishr, 1) := by decide +kernel
theorem dX7_stop_62 : decode cX7_stop 62 = .ok (.iconst 1, 1) := by decide +kernel
theorem dX7_stop_63 : decode cX7_stop 63 = .ok (.iand, 1) := by decide +kernel
theorem dX7_stop_64 : decode cX7_stop 64 = .ok (.ifCond .ne 56, 3) := by decide +kernel
theorem dX7_stop_67 : decode cX7_stop 67 = .ok (.iload 5, 2) := by decide +kernel
theorem dX7_stop_69 : decode cX7_stop 69 = .ok (.ifCond .lt 16, 3) := by decide +kernel
theorem dX7_stop_72 : decode cX7_stop 72 = .ok (.iload 6, 2) := by decide +kernel
theorem dX7_stop_74 : decode cX7_stop 74 = .ok (.invokestatic 176, 3) := by decide +kernel
theorem dX7_stop_77 : decode cX7_stop 77 = .ok (.iload 5, 2) := by decide +kernel
theorem dX7_stop_79 : decode cX7_stop 79 = .ok (.invokestatic 176, 3) := by decide +kernel
theorem dX7_stop_82 : decode cX7_stop 82 = .ok (.if_icmp .ge 38, 3) := by decide +kernel
theorem dX7_stop_85 : decode cX7_stop 85 = .ok (.aload_n 0, 1) := by decide +kernel
theorem dX7_stop_86 : decode cX7_stop 86 = .ok (.iload_n 1, 1) := by decide +kernel
theorem dX7_stop_87 : decode cX7_stop 87 = .ok (.iload 6, 2) := by decide +kernel
theorem dX7_stop_89 : decode cX7_stop 89 = .ok (.invokevirtual 190, 3) := by decide +kernel
theorem dX7_stop_92 : decode cX7_stop 92 = .ok (.aload_n 0, 1) := by decide +kernel
theorem dX7_stop_93 : decode cX7_stop 93 = .ok (.getfield 35, 3) := by decide +kernel
theorem dX7_stop_96 : decode cX7_stop 96 = .ok (.sipush 506, 3) := by decide +kernel
theorem dX7_stop_99 : decode cX7_stop 99 = .ok (.iconst 4, 1) := by decide +kernel
theorem dX7_stop_100 : decode cX7_stop 100 = .ok (.iload_n 2, 1) := by decide +kernel
theorem dX7_stop_101 : decode cX7_stop 101 = .ok (.imul, 1) := by decide +kernel
theorem dX7_stop_102 : decode cX7_stop 102 = .ok (.iadd, 1) := by decide +kernel
theorem dX7_stop_103 : decode cX7_stop 103 = .ok (.iload_n 3, 1) := by decide +kernel
theorem dX7_stop_104 : decode cX7_stop 104 = .ok (.iadd, 1) := by decide +kernel
theorem dX7_stop_105 : decode cX7_stop 105 = .ok (.iaload, 1) := by decide +kernel
theorem dX7_stop_106 : decode cX7_stop 106 = .ok (.iload 4, 2) := by decide +kernel
theorem dX7_stop_108 : decode cX7_stop 108 = .ok (.if_icmp .ge 8, 3) := by decide +kernel
theorem dX7_stop_111 : decode cX7_stop 111 = .ok (.iload 6, 2) := by decide +kernel
theorem dX7_stop_113 : decode cX7_stop 113 = .ok (.goto 5, 3) := by decide +kernel
theorem dX7_stop_116 : decode cX7_stop 116 = .ok (.iload 5, 2) := by decide +kernel
theorem dX7_stop_118 : decode cX7_stop 118 = .ok (.istore 5, 2) := by decide +kernel
theorem dX7_stop_120 : decode cX7_stop 120 = .ok (.iinc 6 1, 3) := by decide +kernel
theorem dX7_stop_123 : decode cX7_stop 123 = .ok (.goto (-78), 3) := by decide +kernel
theorem dX7_stop_126 : decode cX7_stop 126 = .ok (.iload 5, 2) := by decide +kernel
theorem dX7_stop_128 : decode cX7_stop 128 = .ok (.ireturn, 1) := by decide +kernel
set_option maxRecDepth 20000 in
theorem ggX7_how_X7_isLodger : GoodIn wsX7_how wsX7_isLodger := goodIn_r _ [8, 9, 10, 11, 7, 12, 27, 28, 29, 30, 31, 32, 33, 34, 35, 36, 37, 38, 39, 40, 41, 42, 43, 44, 45] (by decide +kernel) (by decide +kernel)
set_option maxRecDepth 20000 in
theorem gX7_how_X7_isLodger : GoodIn wsX7_how (wsV RX7 123 RX7 yX7_isLodger wsX7_isLodger) := goodIn_app (goodIn_of _ (by decide +kernel)) ggX7_how_X7_isLodger
set_option maxRecDepth 20000 in
theorem ggX7_how_X7_isDoor : GoodIn wsX7_how wsX7_isDoor := goodIn_r _ [16, 17, 10, 11, 7, 12, 27, 28, 29, 30, 31, 32, 33, 34, 35, 36, 37, 38, 39, 40, 41, 42, 43, 44, 45] (by decide +kernel) (by decide +kernel)
set_option maxRecDepth 20000 in
theorem gX7_how_X7_isDoor : GoodIn wsX7_how (wsV RX7 118 RX7 yX7_isDoor wsX7_isDoor) := goodIn_app (goodIn_of _ (by decide +kernel)) ggX7_how_X7_isDoor
set_option maxRecDepth 20000 in
theorem ggX7_how_X7_in : GoodIn wsX7_how wsX7_in := goodIn_r _ [12] (by decide +kernel) (by decide +kernel)
set_option maxRecDepth 20000 in
theorem gX7_how_X7_in : GoodIn wsX7_how (va_wsS RX7 61 yX7_in wsX7_in) := goodIn_app (goodIn_of _ (by decide +kernel)) ggX7_how_X7_in
set_option maxRecDepth 20000 in
theorem ggX7_how_X7_becomes : GoodIn wsX7_how wsX7_becomes := goodIn_r _ [21, 22, 23, 27, 28, 29, 30, 31, 32, 33, 34, 35, 36, 37, 38, 39, 40, 41, 42, 43, 44, 45] (by decide +kernel) (by decide +kernel)
set_option maxRecDepth 20000 in
theorem gX7_how_X7_becomes : GoodIn wsX7_how (wsV RX7 134 RX7 yX7_becomes wsX7_becomes) := goodIn_app (goodIn_of _ (by decide +kernel)) ggX7_how_X7_becomes
set_option maxRecDepth 20000 in
theorem ggX7_how_X7_many : GoodIn wsX7_how wsX7_many := goodIn_r _ [26] (by decide +kernel) (by decide +kernel)
set_option maxRecDepth 20000 in
theorem gX7_how_X7_many : GoodIn wsX7_how (va_wsS RX7 176 yX7_many wsX7_many) := goodIn_app (goodIn_of _ (by decide +kernel)) ggX7_how_X7_many
theorem dX7_how_0 : decode cX7_how 0 = .ok (.aload_n 0, 1) := by decide +kernel
theorem dX7_how_1 : decode cX7_how 1 = .ok (.iload_n 1, 1) := by decide +kernel
theorem dX7_how_2 : decode cX7_how 2 = .ok (.invokevirtual 123, 3) := by decide +kernel
theorem dX7_how_5 : decode cX7_how 5 = .ok (.ifCond .eq 47, 3) := by decide +kernel
theorem dX7_how_8 : decode cX7_how 8 = .ok (.aload_n 0, 1) := by decide +kernel
theorem dX7_how_9 : decode cX7_how 9 = .ok (.iload_n 2, 1) := by decide +kernel
theorem dX7_how_10 : decode cX7_how 10 = .ok (.invokevirtual 118, 3) := by decide +kernel
theorem dX7_how_13 : decode cX7_how 13 = .ok (.ifCond .eq 39, 3) := by decide +kernel
theorem dX7_how_16 : decode cX7_how 16 = .ok (.iload_n 3, 1) := by decide +kernel
theorem dX7_how_17 : decode cX7_how 17 = .ok (.i2l, 1) := by decide +kernel
theorem dX7_how_18 : decode cX7_how 18 = .ok (.lconst 0, 1) := by decide +kernel
theorem dX7_how_19 : decode cX7_how 19 = .ok (.ldc2_w 59, 3) := by decide +kernel
theorem dX7_how_22 : decode cX7_how 22 = .ok (.invokestatic 61, 3) := by decide +kernel
theorem dX7_how_25 : decode cX7_how 25 = .ok (.ifCond .eq 27, 3) := by decide +kernel
theorem dX7_how_28 : decode cX7_how 28 = .ok (.iload 4, 2) := by decide +kernel
theorem dX7_how_30 : decode cX7_how 30 = .ok (.i2l, 1) := by decide +kernel
theorem dX7_how_31 : decode cX7_how 31 = .ok (.lconst 1, 1) := by decide +kernel
theorem dX7_how_32 : decode cX7_how 32 = .ok (.ldc2_w 195, 3) := by decide +kernel
theorem dX7_how_35 : decode cX7_how 35 = .ok (.invokestatic 61, 3) := by decide +kernel
theorem dX7_how_38 : decode cX7_how 38 = .ok (.ifCond .eq 14, 3) := by decide +kernel
theorem dX7_how_41 : decode cX7_how 41 = .ok (.iload 5, 2) := by decide +kernel
theorem dX7_how_43 : decode cX7_how 43 = .ok (.i2l, 1) := by decide +kernel
theorem dX7_how_44 : decode cX7_how 44 = .ok (.lconst 0, 1) := by decide +kernel
theorem dX7_how_45 : decode cX7_how 45 = .ok (.lconst 1, 1) := by decide +kernel
theorem dX7_how_46 : decode cX7_how 46 = .ok (.invokestatic 61, 3) := by decide +kernel
theorem dX7_how_49 : decode cX7_how 49 = .ok (.ifCond .ne 5, 3) := by decide +kernel
theorem dX7_how_52 : decode cX7_how 52 = .ok (.iconst (-1), 1) := by decide +kernel
theorem dX7_how_53 : decode cX7_how 53 = .ok (.ireturn, 1) := by decide +kernel
theorem dX7_how_54 : decode cX7_how 54 = .ok (.iconst 0, 1) := by decide +kernel
theorem dX7_how_55 : decode cX7_how 55 = .ok (.istore 6, 2) := by decide +kernel
theorem dX7_how_57 : decode cX7_how 57 = .ok (.bipush (-4), 2) := by decide +kernel
theorem dX7_how_59 : decode cX7_how 59 = .ok (.istore 7, 2) := by decide +kernel
theorem dX7_how_61 : decode cX7_how 61 = .ok (.iconst 0, 1) := by decide +kernel
theorem dX7_how_62 : decode cX7_how 62 = .ok (.istore 8, 2) := by decide +kernel
theorem dX7_how_64 : decode cX7_how 64 = .ok (.iload 8, 2) := by decide +kernel
theorem dX7_how_66 : decode cX7_how 66 = .ok (.iconst 1, 1) := by decide +kernel
theorem dX7_how_67 : decode cX7_how 67 = .ok (.iload_n 3, 1) := by decide +kernel
theorem dX7_how_68 : decode cX7_how 68 = .ok (.ishl, 1) := by decide +kernel
theorem dX7_how_69 : decode cX7_how 69 = .ok (.if_icmp .ge 100, 3) := by decide +kernel
theorem dX7_how_72 : decode cX7_how 72 = .ok (.aload_n 0, 1) := by decide +kernel
theorem dX7_how_73 : decode cX7_how 73 = .ok (.getfield 32, 3) := by decide +kernel
theorem dX7_how_76 : decode cX7_how 76 = .ok (.iconst 4, 1) := by decide +kernel
theorem dX7_how_77 : decode cX7_how 77 = .ok (.iload_n 2, 1) := by decide +kernel
theorem dX7_how_78 : decode cX7_how 78 = .ok (.imul, 1) := by decide +kernel
theorem dX7_how_79 : decode cX7_how 79 = .ok (.iload_n 1, 1) := by decide +kernel
theorem dX7_how_80 : decode cX7_how 80 = .ok (.iadd, 1) := by decide +kernel
theorem dX7_how_81 : decode cX7_how 81 = .ok (.iaload, 1) := by decide +kernel
theorem dX7_how_82 : decode cX7_how 82 = .ok (.istore 9, 2) := by decide +kernel
theorem dX7_how_84 : decode cX7_how 84 = .ok (.iconst 0, 1) := by decide +kernel
theorem dX7_how_85 : decode cX7_how 85 = .ok (.istore 10, 2) := by decide +kernel
theorem dX7_how_87 : decode cX7_how 87 = .ok (.iload 10, 2) := by decide +kernel
theorem dX7_how_89 : decode cX7_how 89 = .ok (.iload_n 3, 1) := by decide +kernel
theorem dX7_how_90 : decode cX7_how 90 = .ok (.if_icmp .ge 34, 3) := by decide +kernel
theorem dX7_how_93 : decode cX7_how 93 = .ok (.aload_n 0, 1) := by decide +kernel
theorem dX7_how_94 : decode cX7_how 94 = .ok (.iload_n 1, 1) := by decide +kernel
theorem dX7_how_95 : decode cX7_how 95 = .ok (.iload 9, 2) := by decide +kernel
theorem dX7_how_97 : decode cX7_how 97 = .ok (.iload 8, 2) := by decide +kernel
theorem dX7_how_99 : decode cX7_how 99 = .ok (.iload 10, 2) := by decide +kernel
theorem dX7_how_101 : decode cX7_how 101 = .ok (.ishr, 1) := by decide +kernel
theorem dX7_how_102 : decode cX7_how 102 = .ok (.iconst 1, 1) := by decide +kernel
theorem dX7_how_103 : decode cX7_how 103 = .ok (.iand, 1) := by decide +kernel
theorem dX7_how_104 : decode cX7_how 104 = .ok (.iconst 1, 1) := by decide +kernel
theorem dX7_how_105 : decode cX7_how 105 = .ok (.if_icmp .ne 7, 3) := by decide +kernel
theorem dX7_how_108 : decode cX7_how 108 = .ok (.iconst 1, 1) := by decide +kernel
theorem dX7_how_109 : decode cX7_how 109 = .ok (.goto 4, 3) := by decide +kernel
theorem dX7_how_112 : decode cX7_how 112 = .ok (.iconst 0, 1) := by decide +kernel
theorem dX7_how_113 : decode cX7_how 113 = .ok (.invokevirtual 134, 3) := by decide +kernel
theorem dX7_how_116 : decode cX7_how 116 = .ok (.istore 9, 2) := by decide +kernel
theorem dX7_how_118 : decode cX7_how 118 = .ok (.iinc 10 1, 3) := by decide +kernel
theorem dX7_how_121 : decode cX7_how 121 = .ok (.goto (-34), 3) := by decide +kernel
theorem dX7_how_124 : decode cX7_how 124 = .ok (.iload 9, 2) := by decide +kernel
theorem dX7_how_126 : decode cX7_how 126 = .ok (.iconst 1, 1) := by decide +kernel
theorem dX7_how_127 : decode cX7_how 127 = .ok (.iadd, 1) := by decide +kernel
theorem dX7_how_128 : decode cX7_how 128 = .ok (.iload 4, 2) := by decide +kernel
theorem dX7_how_130 : decode cX7_how 130 = .ok (.if_icmp .ne 33, 3) := by decide +kernel
theorem dX7_how_133 : decode cX7_how 133 = .ok (.iinc 6 1, 3) := by decide +kernel
theorem dX7_how_136 : decode cX7_how 136 = .ok (.iload 7, 2) := by decide +kernel
theorem dX7_how_138 : decode cX7_how 138 = .ok (.ifCond .lt 13, 3) := by decide +kernel
theorem dX7_how_141 : decode cX7_how 141 = .ok (.iload 8, 2) := by decide +kernel
theorem dX7_how_143 : decode cX7_how 143 = .ok (.invokestatic 176, 3) := by decide +kernel
theorem dX7_how_146 : decode cX7_how 146 = .ok (.iload 7, 2) := by decide +kernel
theorem dX7_how_148 : decode cX7_how 148 = .ok (.if_icmp .ge 11, 3) := by decide +kernel
theorem dX7_how_151 : decode cX7_how 151 = .ok (.iload 8, 2) := by decide +kernel
theorem dX7_how_153 : decode cX7_how 153 = .ok (.invokestatic 176, 3) := by decide +kernel
theorem dX7_how_156 : decode cX7_how 156 = .ok (.goto 5, 3) := by decide +kernel
theorem dX7_how_159 : decode cX7_how 159 = .ok (.iload 7, 2) := by decide +kernel
theorem dX7_how_161 : decode cX7_how 161 = .ok (.istore 7, 2) := by decide +kernel
theorem dX7_how_163 : decode cX7_how 163 = .ok (.iinc 8 1, 3) := by decide +kernel
theorem dX7_how_166 : decode cX7_how 166 = .ok (.goto (-102), 3) := by decide +kernel
theorem dX7_how_169 : decode cX7_how 169 = .ok (.iload 5, 2) := by decide +kernel
theorem dX7_how_171 : decode cX7_how 171 = .ok (.ifCond .ne 8, 3) := by decide +kernel
theorem dX7_how_174 : decode cX7_how 174 = .ok (.iload 6, 2) := by decide +kernel
theorem dX7_how_176 : decode cX7_how 176 = .ok (.goto 5, 3) := by decide +kernel
theorem dX7_how_179 : decode cX7_how 179 = .ok (.iload 7, 2) := by decide +kernel
theorem dX7_how_181 : decode cX7_how 181 = .ok (.ireturn, 1) := by decide +kernel
theorem dX7_news_0 : decode cX7_news 0 = .ok (.iconst 0, 1) := by decide +kernel
theorem dX7_news_1 : decode cX7_news 1 = .ok (.istore_n 2, 1) := by decide +kernel
theorem dX7_news_2 : decode cX7_news 2 = .ok (.iconst 0, 1) := by decide +kernel
theorem dX7_news_3 : decode cX7_news 3 = .ok (.istore_n 3, 1) := by decide +kernel
theorem dX7_news_4 : decode cX7_news 4 = .ok (.iload_n 3, 1) := by decide +kernel
theorem dX7_news_5 : decode cX7_news 5 = .ok (.aload_n 0, 1) := by decide +kernel
theorem dX7_news_6 : decode cX7_news 6 = .ok (.getfield 26, 3) := by decide +kernel
theorem dX7_news_9 : decode cX7_news 9 = .ok (.iconst 0, 1) := by decide +kernel
theorem dX7_news_10 : decode cX7_news 10 = .ok (.iaload, 1) := by decide +kernel
theorem dX7_news_11 : decode cX7_news 11 = .ok (.if_icmp .ge 22, 3) := by decide +kernel
theorem dX7_news_14 : decode cX7_news 14 = .ok (.iload_n 2, 1) := by decide +kernel
theorem dX7_news_15 : decode cX7_news 15 = .ok (.aload_n 0, 1) := by decide +kernel
theorem dX7_news_16 : decode cX7_news 16 = .ok (.getfield 35, 3) := by decide +kernel
theorem dX7_news_19 : decode cX7_news 19 = .ok (.iconst 4, 1) := by decide +kernel
theorem dX7_news_20 : decode cX7_news 20 = .ok (.iload_n 1, 1) := by decide +kernel
theorem dX7_news_21 : decode cX7_news 21 = .ok (.imul, 1) := by decide +kernel
theorem dX7_news_22 : decode cX7_news 22 = .ok (.iload_n 3, 1) := by decide +kernel
theorem dX7_news_23 : decode cX7_news 23 = .ok (.iadd, 1) := by decide +kernel
theorem dX7_news_24 : decode cX7_news 24 = .ok (.iaload, 1) := by decide +kernel
theorem dX7_news_25 : decode cX7_news 25 = .ok (.iadd, 1) := by decide +kernel
theorem dX7_news_26 : decode cX7_news 26 = .ok (.istore_n 2, 1) := by decide +kernel
theorem dX7_news_27 : decode cX7_news 27 = .ok (.iinc 3 1, 3) := by decide +kernel
theorem dX7_news_30 : decode cX7_news 30 = .ok (.goto (-26), 3) := by decide +kernel
theorem dX7_news_33 : decode cX7_news 33 = .ok (.iload_n 2, 1) := by decide +kernel
theorem dX7_news_34 : decode cX7_news 34 = .ok (.aload_n 0, 1) := by decide +kernel
theorem dX7_news_35 : decode cX7_news 35 = .ok (.getfield 26, 3) := by decide +kernel
theorem dX7_news_38 : decode cX7_news 38 = .ok (.iconst 0, 1) := by decide +kernel
theorem dX7_news_39 : decode cX7_news 39 = .ok (.iaload, 1) := by decide +kernel
theorem dX7_news_40 : decode cX7_news 40 = .ok (.idiv, 1) := by decide +kernel
theorem dX7_news_41 : decode cX7_news 41 = .ok (.ireturn, 1) := by decide +kernel
set_option maxRecDepth 20000 in
theorem ggX7_fresh_X7_news : GoodIn wsX7_fresh wsX7_news := goodIn_r _ [6, 7, 8, 16, 17, 18, 19, 20, 21, 22, 23, 24, 25, 26, 27, 28, 29, 30, 31, 32, 33, 34] (by decide +kernel) (by decide +kernel)
set_option maxRecDepth 20000 in
theorem gX7_fresh_X7_news : GoodIn wsX7_fresh (wsV RX7 197 RX7 yX7_news wsX7_news) := goodIn_app (goodIn_of _ (by decide +kernel)) ggX7_fresh_X7_news
set_option maxRecDepth 20000 in
theorem ggX7_fresh_X7_isDoor : GoodIn wsX7_fresh wsX7_isDoor := goodIn_r _ [12, 1, 13, 14, 5, 15, 16, 17, 18, 19, 20, 21, 22, 23, 24, 25, 26, 27, 28, 29, 30, 31, 32, 33, 34] (by decide +kernel) (by decide +kernel)
set_option maxRecDepth 20000 in
theorem gX7_fresh_X7_isDoor : GoodIn wsX7_fresh (wsV RX7 118 RX7 yX7_isDoor wsX7_isDoor) := goodIn_app (goodIn_of _ (by decide +kernel)) ggX7_fresh_X7_isDoor
theorem dX7_fresh_0 : decode cX7_fresh 0 = .ok (.iload_n 1, 1) := by decide +kernel
theorem dX7_fresh_1 : decode cX7_fresh 1 = .ok (.iconst (-1), 1) := by decide +kernel
theorem dX7_fresh_2 : decode cX7_fresh 2 = .ok (.if_icmp .ne 44, 3) := by decide +kernel
theorem dX7_fresh_5 : decode cX7_fresh 5 = .ok (.iconst 0, 1) := by decide +kernel
theorem dX7_fresh_6 : decode cX7_fresh 6 = .ok (.istore_n 2, 1) := by decide +kernel
theorem dX7_fresh_7 : decode cX7_fresh 7 = .ok (.iconst 1, 1) := by decide +kernel
theorem dX7_fresh_8 : decode cX7_fresh 8 = .ok (.istore_n 3, 1) := by decide +kernel
theorem dX7_fresh_9 : decode cX7_fresh 9 = .ok (.iload_n 3, 1) := by decide +kernel
theorem dX7_fresh_10 : decode cX7_fresh 10 = .ok (.aload_n 0, 1) := by decide +kernel
theorem dX7_fresh_11 : decode cX7_fresh 11 = .ok (.getfield 17, 3) := by decide +kernel
theorem dX7_fresh_14 : decode cX7_fresh 14 = .ok (.iconst 0, 1) := by decide +kernel
theorem dX7_fresh_15 : decode cX7_fresh 15 = .ok (.iaload, 1) := by decide +kernel
theorem dX7_fresh_16 : decode cX7_fresh 16 = .ok (.if_icmp .ge 28, 3) := by decide +kernel
theorem dX7_fresh_19 : decode cX7_fresh 19 = .ok (.aload_n 0, 1) := by decide +kernel
theorem dX7_fresh_20 : decode cX7_fresh 20 = .ok (.iload_n 3, 1) := by decide +kernel
theorem dX7_fresh_21 : decode cX7_fresh 21 = .ok (.invokevirtual 197, 3) := by decide +kernel
theorem dX7_fresh_24 : decode cX7_fresh 24 = .ok (.aload_n 0, 1) := by decide +kernel
theorem dX7_fresh_25 : decode cX7_fresh 25 = .ok (.iload_n 2, 1) := by decide +kernel
theorem dX7_fresh_26 : decode cX7_fresh 26 = .ok (.invokevirtual 197, 3) := by decide +kernel
theorem dX7_fresh_29 : decode cX7_fresh 29 = .ok (.if_icmp .ge 7, 3) := by decide +kernel
theorem dX7_fresh_32 : decode cX7_fresh 32 = .ok (.iload_n 3, 1) := by decide +kernel
theorem dX7_fresh_33 : decode cX7_fresh 33 = .ok (.goto 4, 3) := by decide +kernel
theorem dX7_fresh_36 : decode cX7_fresh 36 = .ok (.iload_n 2, 1) := by decide +kernel
theorem dX7_fresh_37 : decode cX7_fresh 37 = .ok (.istore_n 2, 1) := by decide +kernel
theorem dX7_fresh_38 : decode cX7_fresh 38 = .ok (.iinc 3 1, 3) := by decide +kernel
theorem dX7_fresh_41 : decode cX7_fresh 41 = .ok (.goto (-32), 3) := by decide +kernel
theorem dX7_fresh_44 : decode cX7_fresh 44 = .ok (.iload_n 2, 1) := by decide +kernel
theorem dX7_fresh_45 : decode cX7_fresh 45 = .ok (.ireturn, 1) := by decide +kernel
theorem dX7_fresh_46 : decode cX7_fresh 46 = .ok (.aload_n 0, 1) := by decide +kernel
theorem dX7_fresh_47 : decode cX7_fresh 47 = .ok (.iload_n 1, 1) := by decide +kernel
theorem dX7_fresh_48 : decode cX7_fresh 48 = .ok (.invokevirtual 118, 3) := by decide +kernel
theorem dX7_fresh_51 : decode cX7_fresh 51 = .ok (.ifCond .eq 11, 3) := by decide +kernel
theorem dX7_fresh_54 : decode cX7_fresh 54 = .ok (.aload_n 0, 1) := by decide +kernel
theorem dX7_fresh_55 : decode cX7_fresh 55 = .ok (.iload_n 1, 1) := by decide +kernel
theorem dX7_fresh_56 : decode cX7_fresh 56 = .ok (.invokevirtual 197, 3) := by decide +kernel
theorem dX7_fresh_59 : decode cX7_fresh 59 = .ok (.goto 4, 3) := by decide +kernel
theorem dX7_fresh_62 : decode cX7_fresh 62 = .ok (.iconst (-1), 1) := by decide +kernel
theorem dX7_fresh_63 : decode cX7_fresh 63 = .ok (.ireturn, 1) := by decide +kernel
set_option maxRecDepth 20000 in
theorem ggX7_walks_X7_firstOf : GoodIn wsX7_walks wsX7_firstOf := goodIn_r _ [6, 7, 8, 9, 10, 11, 5, 12, 13, 14, 15, 16, 17, 18, 19, 20, 21, 22, 1, 23, 24, 25, 26, 27, 28, 29, 30, 41, 42, 43, 44, 45, 46, 47, 48, 49, 50, 51, 52, 53, 54, 55, 56, 57, 58, 59] (by decide +kernel) (by decide +kernel)
set_option maxRecDepth 20000 in
theorem gX7_walks_X7_firstOf : GoodIn wsX7_walks (wsV RX7 171 RX7 yX7_firstOf wsX7_firstOf) := goodIn_app (goodIn_of _ (by decide +kernel)) ggX7_walks_X7_firstOf
set_option maxRecDepth 20000 in
theorem ggX7_walks_X7_goes : GoodIn wsX7_walks wsX7_goes := goodIn_r _ [34, 1, 19, 20, 21, 5, 22, 35, 36, 37, 38, 39, 40, 27, 28, 29, 30, 18, 41, 42, 43, 44, 45, 46, 47, 48, 49, 50, 51, 52, 53, 54, 55, 56, 57, 58, 59] (by decide +kernel) (by decide +kernel)
set_option maxRecDepth 20000 in
theorem gX7_walks_X7_goes : GoodIn wsX7_walks (wsV RX7 149 RX7 yX7_goes wsX7_goes) := goodIn_app (goodIn_of _ (by decide +kernel)) ggX7_walks_X7_goes
theorem dX7_walks_0 : decode cX7_walks 0 = .ok (.aload_n 0, 1) := by decide +kernel
theorem dX7_walks_1 : decode cX7_walks 1 = .ok (.bipush 11, 2) := by decide +kernel
theorem dX7_walks_3 : decode cX7_walks 3 = .ok (.iload_n 1, 1) := by decide +kernel
theorem dX7_walks_4 : decode cX7_walks 4 = .ok (.aload_n 0, 1) := by decide +kernel
theorem dX7_walks_5 : decode cX7_walks 5 = .ok (.getfield 35, 3) := by decide +kernel
theorem dX7_walks_8 : decode cX7_walks 8 = .ok (.sipush 546, 3) := by decide +kernel
theorem dX7_walks_11 : decode cX7_walks 11 = .ok (.iload_n 1, 1) := by decide +kernel
theorem dX7_walks_12 : decode cX7_walks 12 = .ok (.iadd, 1) := by decide +kernel
theorem dX7_walks_13 : decode cX7_walks 13 = .ok (.iaload, 1) := by decide +kernel
theorem dX7_walks_14 : decode cX7_walks 14 = .ok (.iload_n 2, 1) := by decide +kernel
theorem dX7_walks_15 : decode cX7_walks 15 = .ok (.invokevirtual 171, 3) := by decide +kernel
theorem dX7_walks_18 : decode cX7_walks 18 = .ok (.istore 4, 2) := by decide +kernel
theorem dX7_walks_20 : decode cX7_walks 20 = .ok (.iload 4, 2) := by decide +kernel
theorem dX7_walks_22 : decode cX7_walks 22 = .ok (.ifCond .lt 48, 3) := by decide +kernel
theorem dX7_walks_25 : decode cX7_walks 25 = .ok (.aload_n 0, 1) := by decide +kernel
theorem dX7_walks_26 : decode cX7_walks 26 = .ok (.bipush 11, 2) := by decide +kernel
theorem dX7_walks_28 : decode cX7_walks 28 = .ok (.iload_n 1, 1) := by decide +kernel
theorem dX7_walks_29 : decode cX7_walks 29 = .ok (.iload 4, 2) := by decide +kernel
theorem dX7_walks_31 : decode cX7_walks 31 = .ok (.iload_n 3, 1) := by decide +kernel
theorem dX7_walks_32 : decode cX7_walks 32 = .ok (.invokevirtual 149, 3) := by decide +kernel
theorem dX7_walks_35 : decode cX7_walks 35 = .ok (.istore 5, 2) := by decide +kernel
theorem dX7_walks_37 : decode cX7_walks 37 = .ok (.iload 5, 2) := by decide +kernel
theorem dX7_walks_39 : decode cX7_walks 39 = .ok (.ifCond .le 24, 3) := by decide +kernel
theorem dX7_walks_42 : decode cX7_walks 42 = .ok (.aload_n 0, 1) := by decide +kernel
theorem dX7_walks_43 : decode cX7_walks 43 = .ok (.bipush 11, 2) := by decide +kernel
theorem dX7_walks_45 : decode cX7_walks 45 = .ok (.iload_n 1, 1) := by decide +kernel
theorem dX7_walks_46 : decode cX7_walks 46 = .ok (.aload_n 0, 1) := by decide +kernel
theorem dX7_walks_47 : decode cX7_walks 47 = .ok (.getfield 35, 3) := by decide +kernel
theorem dX7_walks_50 : decode cX7_walks 50 = .ok (.sipush 546, 3) := by decide +kernel
theorem dX7_walks_53 : decode cX7_walks 53 = .ok (.iload_n 1, 1) := by decide +kernel
theorem dX7_walks_54 : decode cX7_walks 54 = .ok (.iadd, 1) := by decide +kernel
theorem dX7_walks_55 : decode cX7_walks 55 = .ok (.iaload, 1) := by decide +kernel
theorem dX7_walks_56 : decode cX7_walks 56 = .ok (.iload_n 2, 1) := by decide +kernel
theorem dX7_walks_57 : decode cX7_walks 57 = .ok (.invokevirtual 171, 3) := by decide +kernel
theorem dX7_walks_60 : decode cX7_walks 60 = .ok (.goto 5, 3) := by decide +kernel
theorem dX7_walks_63 : decode cX7_walks 63 = .ok (.bipush (-4), 2) := by decide +kernel
theorem dX7_walks_65 : decode cX7_walks 65 = .ok (.istore 4, 2) := by decide +kernel
theorem dX7_walks_67 : decode cX7_walks 67 = .ok (.goto (-47), 3) := by decide +kernel
theorem dX7_walks_70 : decode cX7_walks 70 = .ok (.return_, 1) := by decide +kernel
set_option maxRecDepth 20000 in
theorem ggX7_week_X7_in : GoodIn wsX7_week wsX7_in := goodIn_r _ [13] (by decide +kernel) (by decide +kernel)
set_option maxRecDepth 20000 in
theorem gX7_week_X7_in : GoodIn wsX7_week (va_wsS RX7 61 yX7_in wsX7_in) := goodIn_app (goodIn_of _ (by decide +kernel)) ggX7_week_X7_in
set_option maxRecDepth 20000 in
theorem ggX7_week_X7_copies : GoodIn wsX7_week wsX7_copies := goodIn_r _ [17, 7, 64, 65, 66, 67, 68, 69, 70, 71, 72, 73, 74, 75, 76, 77, 78, 79, 80, 81, 82] (by decide +kernel) (by decide +kernel)
set_option maxRecDepth 20000 in
theorem gX7_week_X7_copies : GoodIn wsX7_week (wsV RX7 126 RX7 yX7_copies wsX7_copies) := goodIn_app (goodIn_of _ (by decide +kernel)) ggX7_week_X7_copies
set_option maxRecDepth 20000 in
theorem ggX7_week_X7_walks : GoodIn wsX7_week wsX7_walks := goodIn_r _ [21, 7, 22, 23, 24, 12, 25, 9, 26, 27, 28, 29, 30, 31, 32, 33, 34, 35, 36, 37, 38, 39, 40, 41, 42, 43, 44, 45, 46, 47, 48, 49, 50, 51, 52, 53, 54, 55, 56, 8, 57, 64, 65, 66, 67, 68, 69, 70, 71, 72, 73, 74, 75, 76, 77, 78, 79, 80, 81, 82] (by decide +kernel) (by decide +kernel)
set_option maxRecDepth 20000 in
theorem gX7_week_X7_walks : GoodIn wsX7_week (wsV RX7 208 RX7 yX7_walks wsX7_walks) := goodIn_app (goodIn_of _ (by decide +kernel)) ggX7_week_X7_walks
set_option maxRecDepth 20000 in
theorem ggX7_week_X7_nights : GoodIn wsX7_week wsX7_nights := goodIn_r _ [61, 62, 7, 9, 36, 6, 57, 63, 64, 65, 66, 67, 68, 69, 70, 71, 72, 73, 74, 75, 76, 77, 78, 79, 80, 81, 82] (by decide +kernel) (by decide +kernel)
set_option maxRecDepth 20000 in
theorem gX7_week_X7_nights : GoodIn wsX7_week (wsV RX7 155 RX7 yX7_nights wsX7_nights) := goodIn_app (goodIn_of _ (by decide +kernel)) ggX7_week_X7_nights
theorem dX7_week_0 : decode cX7_week 0 = .ok (.iload_n 1, 1) := by decide +kernel
theorem dX7_week_1 : decode cX7_week 1 = .ok (.i2l, 1) := by decide +kernel
theorem dX7_week_2 : decode cX7_week 2 = .ok (.lconst 0, 1) := by decide +kernel
theorem dX7_week_3 : decode cX7_week 3 = .ok (.ldc2_w 200, 3) := by decide +kernel
theorem dX7_week_6 : decode cX7_week 6 = .ok (.invokestatic 61, 3) := by decide +kernel
theorem dX7_week_9 : decode cX7_week 9 = .ok (.ifCond .eq 25, 3) := by decide +kernel
theorem dX7_week_12 : decode cX7_week 12 = .ok (.iload_n 2, 1) := by decide +kernel
theorem dX7_week_13 : decode cX7_week 13 = .ok (.i2l, 1) := by decide +kernel
theorem dX7_week_14 : decode cX7_week 14 = .ok (.lconst 1, 1) := by decide +kernel
theorem dX7_week_15 : decode cX7_week 15 = .ok (.ldc2_w 153, 3) := by decide +kernel
theorem dX7_week_18 : decode cX7_week 18 = .ok (.invokestatic 61, 3) := by decide +kernel
theorem dX7_week_21 : decode cX7_week 21 = .ok (.ifCond .eq 13, 3) := by decide +kernel
theorem dX7_week_24 : decode cX7_week 24 = .ok (.iload_n 3, 1) := by decide +kernel
theorem dX7_week_25 : decode cX7_week 25 = .ok (.i2l, 1) := by decide +kernel
theorem dX7_week_26 : decode cX7_week 26 = .ok (.lconst 0, 1) := by decide +kernel
theorem dX7_week_27 : decode cX7_week 27 = .ok (.lconst 1, 1) := by decide +kernel
theorem dX7_week_28 : decode cX7_week 28 = .ok (.invokestatic 61, 3) := by decide +kernel
theorem dX7_week_31 : decode cX7_week 31 = .ok (.ifCond .ne 5, 3) := by decide +kernel
theorem dX7_week_34 : decode cX7_week 34 = .ok (.iconst (-1), 1) := by decide +kernel
theorem dX7_week_35 : decode cX7_week 35 = .ok (.ireturn, 1) := by decide +kernel
theorem dX7_week_36 : decode cX7_week 36 = .ok (.aload_n 0, 1) := by decide +kernel
theorem dX7_week_37 : decode cX7_week 37 = .ok (.iconst 0, 1) := by decide +kernel
theorem dX7_week_38 : decode cX7_week 38 = .ok (.bipush 11, 2) := by decide +kernel
theorem dX7_week_40 : decode cX7_week 40 = .ok (.invokevirtual 126, 3) := by decide +kernel
theorem dX7_week_43 : decode cX7_week 43 = .ok (.iconst 0, 1) := by decide +kernel
theorem dX7_week_44 : decode cX7_week 44 = .ok (.istore 4, 2) := by decide +kernel
theorem dX7_week_46 : decode cX7_week 46 = .ok (.iload 4, 2) := by decide +kernel
theorem dX7_week_48 : decode cX7_week 48 = .ok (.iload_n 2, 1) := by decide +kernel
theorem dX7_week_49 : decode cX7_week 49 = .ok (.if_icmp .ge 126, 3) := by decide +kernel
theorem dX7_week_52 : decode cX7_week 52 = .ok (.ldc2_w 202, 3) := by decide +kernel
theorem dX7_week_55 : decode cX7_week 55 = .ok (.iload_n 1, 1) := by decide +kernel
theorem dX7_week_56 : decode cX7_week 56 = .ok (.i2l, 1) := by decide +kernel
theorem dX7_week_57 : decode cX7_week 57 = .ok (.lmul, 1) := by decide +kernel
theorem dX7_week_58 : decode cX7_week 58 = .ok (.ldc2_w 204, 3) := by decide +kernel
theorem dX7_week_61 : decode cX7_week 61 = .ok (.iload 4, 2) := by decide +kernel
theorem dX7_week_63 : decode cX7_week 63 = .ok (.i2l, 1) := by decide +kernel
theorem dX7_week_64 : decode cX7_week 64 = .ok (.lmul, 1) := by decide +kernel
theorem dX7_week_65 : decode cX7_week 65 = .ok (.ladd, 1) := by decide +kernel
theorem dX7_week_66 : decode cX7_week 66 = .ok (.lconst 1, 1) := by decide +kernel
theorem dX7_week_67 : decode cX7_week 67 = .ok (.ladd, 1) := by decide +kernel
theorem dX7_week_68 : decode cX7_week 68 = .ok (.lstore 5, 2) := by decide +kernel
theorem dX7_week_70 : decode cX7_week 70 = .ok (.lload 5, 2) := by decide +kernel
theorem dX7_week_72 : decode cX7_week 72 = .ok (.lload 5, 2) := by decide +kernel
theorem dX7_week_74 : decode cX7_week 74 = .ok (.lmul, 1) := by decide +kernel
theorem dX7_week_75 : decode cX7_week 75 = .ok (.ldc2_w 206, 3) := by decide +kernel
theorem dX7_week_78 : decode cX7_week 78 = .ok (.lrem, 1) := by decide +kernel
theorem dX7_week_79 : decode cX7_week 79 = .ok (.l2i, 1) := by decide +kernel
theorem dX7_week_80 : decode cX7_week 80 = .ok (.istore 7, 2) := by decide +kernel
theorem dX7_week_82 : decode cX7_week 82 = .ok (.iload 7, 2) := by decide +kernel
theorem dX7_week_84 : decode cX7_week 84 = .ok (.aload_n 0, 1) := by decide +kernel
theorem dX7_week_85 : decode cX7_week 85 = .ok (.getfield 26, 3) := by decide +kernel
theorem dX7_week_88 : decode cX7_week 88 = .ok (.iconst 0, 1) := by decide +kernel
theorem dX7_week_89 : decode cX7_week 89 = .ok (.iaload, 1) := by decide +kernel
theorem dX7_week_90 : decode cX7_week 90 = .ok (.irem, 1) := by decide +kernel
theorem dX7_week_91 : decode cX7_week 91 = .ok (.istore 8, 2) := by decide +kernel
theorem dX7_week_93 : decode cX7_week 93 = .ok (.aload_n 0, 1) := by decide +kernel
theorem dX7_week_94 : decode cX7_week 94 = .ok (.getfield 35, 3) := by decide +kernel
theorem dX7_week_97 : decode cX7_week 97 = .ok (.sipush 546, 3) := by decide +kernel
theorem dX7_week_100 : decode cX7_week 100 = .ok (.iload 8, 2) := by decide +kernel
theorem dX7_week_102 : decode cX7_week 102 = .ok (.iadd, 1) := by decide +kernel
theorem dX7_week_103 : decode cX7_week 103 = .ok (.iaload, 1) := by decide +kernel
theorem dX7_week_104 : decode cX7_week 104 = .ok (.istore 9, 2) := by decide +kernel
theorem dX7_week_106 : decode cX7_week 106 = .ok (.aload_n 0, 1) := by decide +kernel
theorem dX7_week_107 : decode cX7_week 107 = .ok (.iload 8, 2) := by decide +kernel
theorem dX7_week_109 : decode cX7_week 109 = .ok (.aload_n 0, 1) := by decide +kernel
theorem dX7_week_110 : decode cX7_week 110 = .ok (.getfield 29, 3) := by decide +kernel
theorem dX7_week_113 : decode cX7_week 113 = .ok (.iconst 3, 1) := by decide +kernel
theorem dX7_week_114 : decode cX7_week 114 = .ok (.iload 8, 2) := by decide +kernel
theorem dX7_week_116 : decode cX7_week 116 = .ok (.imul, 1) := by decide +kernel
theorem dX7_week_117 : decode cX7_week 117 = .ok (.iconst 2, 1) := by decide +kernel
theorem dX7_week_118 : decode cX7_week 118 = .ok (.iadd, 1) := by decide +kernel
theorem dX7_week_119 : decode cX7_week 119 = .ok (.iaload, 1) := by decide +kernel
theorem dX7_week_120 : decode cX7_week 120 = .ok (.iload 7, 2) := by decide +kernel
theorem dX7_week_122 : decode cX7_week 122 = .ok (.bipush 8, 2) := by decide +kernel
theorem dX7_week_124 : decode cX7_week 124 = .ok (.idiv, 1) := by decide +kernel
theorem dX7_week_125 : decode cX7_week 125 = .ok (.iconst 2, 1) := by decide +kernel
theorem dX7_week_126 : decode cX7_week 126 = .ok (.irem, 1) := by decide +kernel
theorem dX7_week_127 : decode cX7_week 127 = .ok (.iconst 1, 1) := by decide +kernel
theorem dX7_week_128 : decode cX7_week 128 = .ok (.if_icmp .ne 7, 3) := by decide +kernel
theorem dX7_week_131 : decode cX7_week 131 = .ok (.iconst 1, 1) := by decide +kernel
theorem dX7_week_132 : decode cX7_week 132 = .ok (.goto 4, 3) := by decide +kernel
theorem dX7_week_135 : decode cX7_week 135 = .ok (.iconst 0, 1) := by decide +kernel
theorem dX7_week_136 : decode cX7_week 136 = .ok (.invokevirtual 208, 3) := by decide +kernel
theorem dX7_week_139 : decode cX7_week 139 = .ok (.aload_n 0, 1) := by decide +kernel
theorem dX7_week_140 : decode cX7_week 140 = .ok (.iload 8, 2) := by decide +kernel
theorem dX7_week_142 : decode cX7_week 142 = .ok (.iload 9, 2) := by decide +kernel
theorem dX7_week_144 : decode cX7_week 144 = .ok (.iload 7, 2) := by decide +kernel
theorem dX7_week_146 : decode cX7_week 146 = .ok (.bipush 8, 2) := by decide +kernel
theorem dX7_week_148 : decode cX7_week 148 = .ok (.idiv, 1) := by decide +kernel
theorem dX7_week_149 : decode cX7_week 149 = .ok (.iconst 2, 1) := by decide +kernel
theorem dX7_week_150 : decode cX7_week 150 = .ok (.irem, 1) := by decide +kernel
theorem dX7_week_151 : decode cX7_week 151 = .ok (.iconst 1, 1) := by decide +kernel
theorem dX7_week_152 : decode cX7_week 152 = .ok (.if_icmp .ne 7, 3) := by decide +kernel
theorem dX7_week_155 : decode cX7_week 155 = .ok (.iconst 1, 1) := by decide +kernel
theorem dX7_week_156 : decode cX7_week 156 = .ok (.goto 4, 3) := by decide +kernel
theorem dX7_week_159 : decode cX7_week 159 = .ok (.iconst 0, 1) := by decide +kernel
theorem dX7_week_160 : decode cX7_week 160 = .ok (.invokevirtual 208, 3) := by decide +kernel
theorem dX7_week_163 : decode cX7_week 163 = .ok (.aload_n 0, 1) := by decide +kernel
theorem dX7_week_164 : decode cX7_week 164 = .ok (.bipush 11, 2) := by decide +kernel
theorem dX7_week_166 : decode cX7_week 166 = .ok (.invokevirtual 155, 3) := by decide +kernel
theorem dX7_week_169 : decode cX7_week 169 = .ok (.iinc 4 1, 3) := by decide +kernel
theorem dX7_week_172 : decode cX7_week 172 = .ok (.goto (-126), 3) := by decide +kernel
theorem dX7_week_175 : decode cX7_week 175 = .ok (.iload_n 3, 1) := by decide +kernel
theorem dX7_week_176 : decode cX7_week 176 = .ok (.ifCond .ne 20, 3) := by decide +kernel
theorem dX7_week_179 : decode cX7_week 179 = .ok (.aload_n 0, 1) := by decide +kernel
theorem dX7_week_180 : decode cX7_week 180 = .ok (.getfield 35, 3) := by decide +kernel
theorem dX7_week_183 : decode cX7_week 183 = .ok (.sipush 550, 3) := by decide +kernel
theorem dX7_week_186 : decode cX7_week 186 = .ok (.iaload, 1) := by decide +kernel
theorem dX7_week_187 : decode cX7_week 187 = .ok (.aload_n 0, 1) := by decide +kernel
theorem dX7_week_188 : decode cX7_week 188 = .ok (.getfield 35, 3) := by decide +kernel
theorem dX7_week_191 : decode cX7_week 191 = .ok (.bipush 44, 2) := by decide +kernel
theorem dX7_week_193 : decode cX7_week 193 = .ok (.iaload, 1) := by decide +kernel
theorem dX7_week_194 : decode cX7_week 194 = .ok (.isub, 1) := by decide +kernel
theorem dX7_week_195 : decode cX7_week 195 = .ok (.ireturn, 1) := by decide +kernel
theorem dX7_week_196 : decode cX7_week 196 = .ok (.iconst 0, 1) := by decide +kernel
theorem dX7_week_197 : decode cX7_week 197 = .ok (.istore 4, 2) := by decide +kernel
theorem dX7_week_199 : decode cX7_week 199 = .ok (.iconst 0, 1) := by decide +kernel
theorem dX7_week_200 : decode cX7_week 200 = .ok (.istore 5, 2) := by decide +kernel
theorem dX7_week_202 : decode cX7_week 202 = .ok (.iload 5, 2) := by decide +kernel
theorem dX7_week_204 : decode cX7_week 204 = .ok (.bipush 32, 2) := by decide +kernel
theorem dX7_week_206 : decode cX7_week 206 = .ok (.if_icmp .ge 55, 3) := by decide +kernel
theorem dX7_week_209 : decode cX7_week 209 = .ok (.iload 4, 2) := by decide +kernel
theorem dX7_week_211 : decode cX7_week 211 = .ok (.iload 5, 2) := by decide +kernel
theorem dX7_week_213 : decode cX7_week 213 = .ok (.iconst 4, 1) := by decide +kernel
theorem dX7_week_214 : decode cX7_week 214 = .ok (.idiv, 1) := by decide +kernel
theorem dX7_week_215 : decode cX7_week 215 = .ok (.aload_n 0, 1) := by decide +kernel
theorem dX7_week_216 : decode cX7_week 216 = .ok (.getfield 17, 3) := by decide +kernel
theorem dX7_week_219 : decode cX7_week 219 = .ok (.iconst 0, 1) := by decide +kernel
theorem dX7_week_220 : decode cX7_week 220 = .ok (.iaload, 1) := by decide +kernel
theorem dX7_week_221 : decode cX7_week 221 = .ok (.if_icmp .ge 30, 3) := by decide +kernel
theorem dX7_week_224 : decode cX7_week 224 = .ok (.iload 5, 2) := by decide +kernel
theorem dX7_week_226 : decode cX7_week 226 = .ok (.iconst 4, 1) := by decide +kernel
theorem dX7_week_227 : decode cX7_week 227 = .ok (.irem, 1) := by decide +kernel
theorem dX7_week_228 : decode cX7_week 228 = .ok (.aload_n 0, 1) := by decide +kernel
theorem dX7_week_229 : decode cX7_week 229 = .ok (.getfield 26, 3) := by decide +kernel
theorem dX7_week_232 : decode cX7_week 232 = .ok (.iconst 0, 1) := by decide +kernel
theorem dX7_week_233 : decode cX7_week 233 = .ok (.iaload, 1) := by decide +kernel
theorem dX7_week_234 : decode cX7_week 234 = .ok (.if_icmp .ge 17, 3) := by decide +kernel
theorem dX7_week_237 : decode cX7_week 237 = .ok (.aload_n 0, 1) := by decide +kernel
theorem dX7_week_238 : decode cX7_week 238 = .ok (.getfield 35, 3) := by decide +kernel
theorem dX7_week_241 : decode cX7_week 241 = .ok (.sipush 506, 3) := by decide +kernel
theorem dX7_week_244 : decode cX7_week 244 = .ok (.iload 5, 2) := by decide +kernel
theorem dX7_week_246 : decode cX7_week 246 = .ok (.iadd, 1) := by decide +kernel
theorem dX7_week_247 : decode cX7_week 247 = .ok (.iaload, 1) := by decide +kernel
theorem dX7_week_248 : decode cX7_week 248 = .ok (.goto 4, 3) := by decide +kernel
theorem dX7_week_251 : decode cX7_week 251 = .ok (.iconst 0, 1) := by decide +kernel
theorem dX7_week_252 : decode cX7_week 252 = .ok (.iadd, 1) := by decide +kernel
theorem dX7_week_253 : decode cX7_week 253 = .ok (.istore 4, 2) := by decide +kernel
theorem dX7_week_255 : decode cX7_week 255 = .ok (.iinc 5 1, 3) := by decide +kernel
theorem dX7_week_258 : decode cX7_week 258 = .ok (.goto (-56), 3) := by decide +kernel
theorem dX7_week_261 : decode cX7_week 261 = .ok (.iload 4, 2) := by decide +kernel
theorem dX7_week_263 : decode cX7_week 263 = .ok (.ireturn, 1) := by decide +kernel
set_option maxRecDepth 20000 in
theorem ggX7_keep_X7_copies : GoodIn wsX7_keep wsX7_copies := goodIn_r _ [6, 7, 8, 9, 10, 11, 12, 13, 14, 15, 16, 17, 18, 19, 20, 21, 22, 23, 24, 25, 26] (by decide +kernel) (by decide +kernel)
set_option maxRecDepth 20000 in
theorem gX7_keep_X7_copies : GoodIn wsX7_keep (wsV RX7 126 RX7 yX7_copies wsX7_copies) := goodIn_app (goodIn_of _ (by decide +kernel)) ggX7_keep_X7_copies
theorem dX7_keep_0 : decode cX7_keep 0 = .ok (.aload_n 0, 1) := by decide +kernel
theorem dX7_keep_1 : decode cX7_keep 1 = .ok (.getfield 106, 3) := by decide +kernel
theorem dX7_keep_4 : decode cX7_keep 4 = .ok (.iconst 2, 1) := by decide +kernel
theorem dX7_keep_5 : decode cX7_keep 5 = .ok (.if_icmp .ne 6, 3) := by decide +kernel
theorem dX7_keep_8 : decode cX7_keep 8 = .ok (.bipush (-3), 2) := by decide +kernel
theorem dX7_keep_10 : decode cX7_keep 10 = .ok (.ireturn, 1) := by decide +kernel
theorem dX7_keep_11 : decode cX7_keep 11 = .ok (.aload_n 0, 1) := by decide +kernel
theorem dX7_keep_12 : decode cX7_keep 12 = .ok (.dup, 1) := by decide +kernel
theorem dX7_keep_13 : decode cX7_keep 13 = .ok (.getfield 106, 3) := by decide +kernel
theorem dX7_keep_16 : decode cX7_keep 16 = .ok (.iconst 1, 1) := by decide +kernel
theorem dX7_keep_17 : decode cX7_keep 17 = .ok (.iadd, 1) := by decide +kernel
theorem dX7_keep_18 : decode cX7_keep 18 = .ok (.putfield 106, 3) := by decide +kernel
theorem dX7_keep_21 : decode cX7_keep 21 = .ok (.aload_n 0, 1) := by decide +kernel
theorem dX7_keep_22 : decode cX7_keep 22 = .ok (.iconst 0, 1) := by decide +kernel
theorem dX7_keep_23 : decode cX7_keep 23 = .ok (.aload_n 0, 1) := by decide +kernel
theorem dX7_keep_24 : decode cX7_keep 24 = .ok (.getfield 106, 3) := by decide +kernel
theorem dX7_keep_27 : decode cX7_keep 27 = .ok (.invokevirtual 126, 3) := by decide +kernel
theorem dX7_keep_30 : decode cX7_keep 30 = .ok (.aload_n 0, 1) := by decide +kernel
theorem dX7_keep_31 : decode cX7_keep 31 = .ok (.getfield 106, 3) := by decide +kernel
theorem dX7_keep_34 : decode cX7_keep 34 = .ok (.ireturn, 1) := by decide +kernel
set_option maxRecDepth 20000 in
theorem ggX7_back_X7_copies : GoodIn wsX7_back wsX7_copies := goodIn_r _ [7, 8, 9, 10, 11, 12, 13, 14, 15, 16, 17, 18, 19, 20, 21, 22, 23, 24, 25, 26, 27] (by decide +kernel) (by decide +kernel)
set_option maxRecDepth 20000 in
theorem gX7_back_X7_copies : GoodIn wsX7_back (wsV RX7 126 RX7 yX7_copies wsX7_copies) := goodIn_app (goodIn_of _ (by decide +kernel)) ggX7_back_X7_copies
theorem dX7_back_0 : decode cX7_back 0 = .ok (.aload_n 0, 1) := by decide +kernel
theorem dX7_back_1 : decode cX7_back 1 = .ok (.getfield 106, 3) := by decide +kernel
theorem dX7_back_4 : decode cX7_back 4 = .ok (.ifCond .ne 6, 3) := by decide +kernel
theorem dX7_back_7 : decode cX7_back 7 = .ok (.bipush (-2), 2) := by decide +kernel
theorem dX7_back_9 : decode cX7_back 9 = .ok (.ireturn, 1) := by decide +kernel
theorem dX7_back_10 : decode cX7_back 10 = .ok (.aload_n 0, 1) := by decide +kernel
theorem dX7_back_11 : decode cX7_back 11 = .ok (.aload_n 0, 1) := by decide +kernel
theorem dX7_back_12 : decode cX7_back 12 = .ok (.getfield 106, 3) := by decide +kernel
theorem dX7_back_15 : decode cX7_back 15 = .ok (.iconst 0, 1) := by decide +kernel
theorem dX7_back_16 : decode cX7_back 16 = .ok (.invokevirtual 126, 3) := by decide +kernel
theorem dX7_back_19 : decode cX7_back 19 = .ok (.aload_n 0, 1) := by decide +kernel
theorem dX7_back_20 : decode cX7_back 20 = .ok (.dup, 1) := by decide +kernel
theorem dX7_back_21 : decode cX7_back 21 = .ok (.getfield 106, 3) := by decide +kernel
theorem dX7_back_24 : decode cX7_back 24 = .ok (.iconst 1, 1) := by decide +kernel
theorem dX7_back_25 : decode cX7_back 25 = .ok (.isub, 1) := by decide +kernel
theorem dX7_back_26 : decode cX7_back 26 = .ok (.putfield 106, 3) := by decide +kernel
theorem dX7_back_29 : decode cX7_back 29 = .ok (.aload_n 0, 1) := by decide +kernel
theorem dX7_back_30 : decode cX7_back 30 = .ok (.iconst 0, 1) := by decide +kernel
theorem dX7_back_31 : decode cX7_back 31 = .ok (.putfield 103, 3) := by decide +kernel
theorem dX7_back_34 : decode cX7_back 34 = .ok (.aload_n 0, 1) := by decide +kernel
theorem dX7_back_35 : decode cX7_back 35 = .ok (.getfield 106, 3) := by decide +kernel
theorem dX7_back_38 : decode cX7_back 38 = .ok (.ireturn, 1) := by decide +kernel
theorem dX7_count_0 : decode cX7_count 0 = .ok (.iload_n 1, 1) := by decide +kernel
theorem dX7_count_1 : decode cX7_count 1 = .ok (.tableswitch 99 0 7 #[47, 54, 61, 68, 76, 84, 89, 94], 47) := by decide +kernel
theorem dX7_count_48 : decode cX7_count 48 = .ok (.aload_n 0, 1) := by decide +kernel
theorem dX7_count_49 : decode cX7_count 49 = .ok (.getfield 13, 3) := by decide +kernel
theorem dX7_count_52 : decode cX7_count 52 = .ok (.iconst 0, 1) := by decide +kernel
theorem dX7_count_53 : decode cX7_count 53 = .ok (.iaload, 1) := by decide +kernel
theorem dX7_count_54 : decode cX7_count 54 = .ok (.ireturn, 1) := by decide +kernel
theorem dX7_count_55 : decode cX7_count 55 = .ok (.aload_n 0, 1) := by decide +kernel
theorem dX7_count_56 : decode cX7_count 56 = .ok (.getfield 17, 3) := by decide +kernel
theorem dX7_count_59 : decode cX7_count 59 = .ok (.iconst 0, 1) := by decide +kernel
theorem dX7_count_60 : decode cX7_count 60 = .ok (.iaload, 1) := by decide +kernel
theorem dX7_count_61 : decode cX7_count 61 = .ok (.ireturn, 1) := by decide +kernel
theorem dX7_count_62 : decode cX7_count 62 = .ok (.aload_n 0, 1) := by decide +kernel
theorem dX7_count_63 : decode cX7_count 63 = .ok (.getfield 26, 3) := by decide +kernel
theorem dX7_count_66 : decode cX7_count 66 = .ok (.iconst 0, 1) := by decide +kernel
theorem dX7_count_67 : decode cX7_count 67 = .ok (.iaload, 1) := by decide +kernel
theorem dX7_count_68 : decode cX7_count 68 = .ok (.ireturn, 1) := by decide +kernel
theorem dX7_count_69 : decode cX7_count 69 = .ok (.aload_n 0, 1) := by decide +kernel
theorem dX7_count_70 : decode cX7_count 70 = .ok (.getfield 35, 3) := by decide +kernel
theorem dX7_count_73 : decode cX7_count 73 = .ok (.bipush 44, 2) := by decide +kernel
theorem dX7_count_75 : decode cX7_count 75 = .ok (.iaload, 1) := by decide +kernel
theorem dX7_count_76 : decode cX7_count 76 = .ok (.ireturn, 1) := by decide +kernel
theorem dX7_count_77 : decode cX7_count 77 = .ok (.aload_n 0, 1) := by decide +kernel
theorem dX7_count_78 : decode cX7_count 78 = .ok (.getfield 35, 3) := by decide +kernel
theorem dX7_count_81 : decode cX7_count 81 = .ok (.bipush 45, 2) := by decide +kernel
theorem dX7_count_83 : decode cX7_count 83 = .ok (.iaload, 1) := by decide +kernel
theorem dX7_count_84 : decode cX7_count 84 = .ok (.ireturn, 1) := by decide +kernel
theorem dX7_count_85 : decode cX7_count 85 = .ok (.aload_n 0, 1) := by decide +kernel
theorem dX7_count_86 : decode cX7_count 86 = .ok (.getfield 103, 3) := by decide +kernel
theorem dX7_count_89 : decode cX7_count 89 = .ok (.ireturn, 1) := by decide +kernel
theorem dX7_count_90 : decode cX7_count 90 = .ok (.aload_n 0, 1) := by decide +kernel
theorem dX7_count_91 : decode cX7_count 91 = .ok (.getfield 106, 3) := by decide +kernel
theorem dX7_count_94 : decode cX7_count 94 = .ok (.ireturn, 1) := by decide +kernel
theorem dX7_count_95 : decode cX7_count 95 = .ok (.aload_n 0, 1) := by decide +kernel
theorem dX7_count_96 : decode cX7_count 96 = .ok (.getfield 65, 3) := by decide +kernel
theorem dX7_count_99 : decode cX7_count 99 = .ok (.ireturn, 1) := by decide +kernel
theorem dX7_count_100 : decode cX7_count 100 = .ok (.iconst (-1), 1) := by decide +kernel
theorem dX7_count_101 : decode cX7_count 101 = .ok (.ireturn, 1) := by decide +kernel
theorem dJ6_bitCount_0f7a4_0 : decode cJ6_bitCount_0f7a4 0 = .ok (.iload_n 0, 1) := by decide +kernel
theorem dJ6_bitCount_0f7a4_1 : decode cJ6_bitCount_0f7a4 1 = .ok (.iload_n 0, 1) := by decide +kernel
theorem dJ6_bitCount_0f7a4_2 : decode cJ6_bitCount_0f7a4 2 = .ok (.iconst 1, 1) := by decide +kernel
theorem dJ6_bitCount_0f7a4_3 : decode cJ6_bitCount_0f7a4 3 = .ok (.iushr, 1) := by decide +kernel
theorem dJ6_bitCount_0f7a4_4 : decode cJ6_bitCount_0f7a4 4 = .ok (.ldc_w 265, 3) := by decide +kernel
theorem dJ6_bitCount_0f7a4_7 : decode cJ6_bitCount_0f7a4 7 = .ok (.iand, 1) := by decide +kernel
theorem dJ6_bitCount_0f7a4_8 : decode cJ6_bitCount_0f7a4 8 = .ok (.isub, 1) := by decide +kernel
theorem dJ6_bitCount_0f7a4_9 : decode cJ6_bitCount_0f7a4 9 = .ok (.istore_n 0, 1) := by decide +kernel
theorem dJ6_bitCount_0f7a4_10 : decode cJ6_bitCount_0f7a4 10 = .ok (.iload_n 0, 1) := by decide +kernel
theorem dJ6_bitCount_0f7a4_11 : decode cJ6_bitCount_0f7a4 11 = .ok (.ldc_w 266, 3) := by decide +kernel
theorem dJ6_bitCount_0f7a4_14 : decode cJ6_bitCount_0f7a4 14 = .ok (.iand, 1) := by decide +kernel
theorem dJ6_bitCount_0f7a4_15 : decode cJ6_bitCount_0f7a4 15 = .ok (.iload_n 0, 1) := by decide +kernel
theorem dJ6_bitCount_0f7a4_16 : decode cJ6_bitCount_0f7a4 16 = .ok (.iconst 2, 1) := by decide +kernel
theorem dJ6_bitCount_0f7a4_17 : decode cJ6_bitCount_0f7a4 17 = .ok (.iushr, 1) := by decide +kernel
theorem dJ6_bitCount_0f7a4_18 : decode cJ6_bitCount_0f7a4 18 = .ok (.ldc_w 266, 3) := by decide +kernel
theorem dJ6_bitCount_0f7a4_21 : decode cJ6_bitCount_0f7a4 21 = .ok (.iand, 1) := by decide +kernel
theorem dJ6_bitCount_0f7a4_22 : decode cJ6_bitCount_0f7a4 22 = .ok (.iadd, 1) := by decide +kernel
theorem dJ6_bitCount_0f7a4_23 : decode cJ6_bitCount_0f7a4 23 = .ok (.istore_n 0, 1) := by decide +kernel
theorem dJ6_bitCount_0f7a4_24 : decode cJ6_bitCount_0f7a4 24 = .ok (.iload_n 0, 1) := by decide +kernel
theorem dJ6_bitCount_0f7a4_25 : decode cJ6_bitCount_0f7a4 25 = .ok (.iload_n 0, 1) := by decide +kernel
theorem dJ6_bitCount_0f7a4_26 : decode cJ6_bitCount_0f7a4 26 = .ok (.iconst 4, 1) := by decide +kernel
theorem dJ6_bitCount_0f7a4_27 : decode cJ6_bitCount_0f7a4 27 = .ok (.iushr, 1) := by decide +kernel
theorem dJ6_bitCount_0f7a4_28 : decode cJ6_bitCount_0f7a4 28 = .ok (.iadd, 1) := by decide +kernel
theorem dJ6_bitCount_0f7a4_29 : decode cJ6_bitCount_0f7a4 29 = .ok (.ldc_w 267, 3) := by decide +kernel
theorem dJ6_bitCount_0f7a4_32 : decode cJ6_bitCount_0f7a4 32 = .ok (.iand, 1) := by decide +kernel
theorem dJ6_bitCount_0f7a4_33 : decode cJ6_bitCount_0f7a4 33 = .ok (.istore_n 0, 1) := by decide +kernel
theorem dJ6_bitCount_0f7a4_34 : decode cJ6_bitCount_0f7a4 34 = .ok (.iload_n 0, 1) := by decide +kernel
theorem dJ6_bitCount_0f7a4_35 : decode cJ6_bitCount_0f7a4 35 = .ok (.iload_n 0, 1) := by decide +kernel
theorem dJ6_bitCount_0f7a4_36 : decode cJ6_bitCount_0f7a4 36 = .ok (.bipush 8, 2) := by decide +kernel
theorem dJ6_bitCount_0f7a4_38 : decode cJ6_bitCount_0f7a4 38 = .ok (.iushr, 1) := by decide +kernel
theorem dJ6_bitCount_0f7a4_39 : decode cJ6_bitCount_0f7a4 39 = .ok (.iadd, 1) := by decide +kernel
theorem dJ6_bitCount_0f7a4_40 : decode cJ6_bitCount_0f7a4 40 = .ok (.istore_n 0, 1) := by decide +kernel
theorem dJ6_bitCount_0f7a4_41 : decode cJ6_bitCount_0f7a4 41 = .ok (.iload_n 0, 1) := by decide +kernel
theorem dJ6_bitCount_0f7a4_42 : decode cJ6_bitCount_0f7a4 42 = .ok (.iload_n 0, 1) := by decide +kernel
theorem dJ6_bitCount_0f7a4_43 : decode cJ6_bitCount_0f7a4 43 = .ok (.bipush 16, 2) := by decide +kernel
theorem dJ6_bitCount_0f7a4_45 : decode cJ6_bitCount_0f7a4 45 = .ok (.iushr, 1) := by decide +kernel
theorem dJ6_bitCount_0f7a4_46 : decode cJ6_bitCount_0f7a4 46 = .ok (.iadd, 1) := by decide +kernel
theorem dJ6_bitCount_0f7a4_47 : decode cJ6_bitCount_0f7a4 47 = .ok (.istore_n 0, 1) := by decide +kernel
theorem dJ6_bitCount_0f7a4_48 : decode cJ6_bitCount_0f7a4 48 = .ok (.iload_n 0, 1) := by decide +kernel
theorem dJ6_bitCount_0f7a4_49 : decode cJ6_bitCount_0f7a4 49 = .ok (.bipush 63, 2) := by decide +kernel
theorem dJ6_bitCount_0f7a4_51 : decode cJ6_bitCount_0f7a4 51 = .ok (.iand, 1) := by decide +kernel
theorem dJ6_bitCount_0f7a4_52 : decode cJ6_bitCount_0f7a4 52 = .ok (.ireturn, 1) := by decide +kernel
theorem dJ9_max_7cf53_0 : decode cJ9_max_7cf53 0 = .ok (.iload_n 0, 1) := by decide +kernel
theorem dJ9_max_7cf53_1 : decode cJ9_max_7cf53 1 = .ok (.iload_n 1, 1) := by decide +kernel
theorem dJ9_max_7cf53_2 : decode cJ9_max_7cf53 2 = .ok (.if_icmp .lt 7, 3) := by decide +kernel
theorem dJ9_max_7cf53_5 : decode cJ9_max_7cf53 5 = .ok (.iload_n 0, 1) := by decide +kernel
theorem dJ9_max_7cf53_6 : decode cJ9_max_7cf53 6 = .ok (.goto 4, 3) := by decide +kernel
theorem dJ9_max_7cf53_9 : decode cJ9_max_7cf53 9 = .ok (.iload_n 1, 1) := by decide +kernel
theorem dJ9_max_7cf53_10 : decode cJ9_max_7cf53 10 = .ok (.ireturn, 1) := by decide +kernel
theorem dJ9_min_7cf53_0 : decode cJ9_min_7cf53 0 = .ok (.iload_n 0, 1) := by decide +kernel
theorem dJ9_min_7cf53_1 : decode cJ9_min_7cf53 1 = .ok (.iload_n 1, 1) := by decide +kernel
theorem dJ9_min_7cf53_2 : decode cJ9_min_7cf53 2 = .ok (.if_icmp .gt 7, 3) := by decide +kernel
theorem dJ9_min_7cf53_5 : decode cJ9_min_7cf53 5 = .ok (.iload_n 0, 1) := by decide +kernel
theorem dJ9_min_7cf53_6 : decode cJ9_min_7cf53 6 = .ok (.goto 4, 3) := by decide +kernel
theorem dJ9_min_7cf53_9 : decode cJ9_min_7cf53 9 = .ok (.iload_n 1, 1) := by decide +kernel
theorem dJ9_min_7cf53_10 : decode cJ9_min_7cf53 10 = .ok (.ireturn, 1) := by decide +kernel
