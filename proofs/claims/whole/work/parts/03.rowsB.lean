set_option maxRecDepth 20000 in
theorem ggX6_init_X4_init : GoodIn wsX6_init wsX4_init := goodIn_r _ [32, 33, 2, 3, 34, 35, 36, 102, 103, 104, 105] (by decide +kernel) (by decide +kernel)
set_option maxRecDepth 20000 in
theorem gX6_init_X4_init_n9 : GoodIn wsX6_init (wsX4_init) := ggX6_init_X4_init
set_option maxRecDepth 20000 in
theorem ggX6_init_X0_init : GoodIn wsX6_init wsX0_init := goodIn_r _ [38, 39, 2, 3, 34, 40, 41, 42, 43, 115, 116, 117, 118, 119, 120] (by decide +kernel) (by decide +kernel)
set_option maxRecDepth 20000 in
theorem gX6_init_X0_init_n18 : GoodIn wsX6_init (wsX0_init) := ggX6_init_X0_init
set_option maxRecDepth 20000 in
theorem ggX6_init_X1_init : GoodIn wsX6_init wsX1_init := goodIn_r _ [46, 47, 2, 3, 48, 49, 50, 51, 52, 53, 9, 10, 37, 38, 39, 34, 40, 41, 42, 43, 121, 122, 115, 116, 117, 118, 119, 120] (by decide +kernel) (by decide +kernel)
set_option maxRecDepth 20000 in
theorem gX6_init_X1_init : GoodIn wsX6_init (wsX1_init) := ggX6_init_X1_init
set_option maxRecDepth 20000 in
theorem ggX6_init_X5_init : GoodIn wsX6_init wsX5_init := goodIn_r _ [55, 56, 2, 3, 34, 57, 58, 123, 124] (by decide +kernel) (by decide +kernel)
set_option maxRecDepth 20000 in
theorem gX6_init_X5_init_n40 : GoodIn wsX6_init (wsX5_init) := ggX6_init_X5_init
set_option maxRecDepth 20000 in
theorem ggX6_init_X3_init : GoodIn wsX6_init wsX3_init := goodIn_r _ [60, 61, 2, 3, 34, 62, 125, 126, 127] (by decide +kernel) (by decide +kernel)
set_option maxRecDepth 20000 in
theorem gX6_init_X3_init_n47 : GoodIn wsX6_init (wsX3_init) := ggX6_init_X3_init
set_option maxRecDepth 20000 in
theorem ggX6_init_X2_init : GoodIn wsX6_init wsX2_init := goodIn_r _ [64, 65, 2, 3, 34, 66, 67, 68, 69, 70, 71, 72, 73, 74, 75, 76, 77, 78, 128, 129, 130, 131, 132, 133, 134, 135, 136, 137, 138, 139, 140, 141, 142] (by decide +kernel) (by decide +kernel)
set_option maxRecDepth 20000 in
theorem gX6_init_X2_init_n54 : GoodIn wsX6_init (wsX2_init) := ggX6_init_X2_init
set_option maxRecDepth 20000 in
theorem ggX6_init_X2_addDoor : GoodIn wsX6_init wsX2_addDoor := goodIn_r _ [82, 66, 83, 67, 68, 84, 85, 86, 128, 129, 130, 131, 132, 133, 134, 135, 136, 137, 138, 139, 140, 141, 142] (by decide +kernel) (by decide +kernel)
set_option maxRecDepth 20000 in
theorem gX6_init_X2_addDoor : GoodIn wsX6_init (wsV RX6 62 RX2 yX2_addDoor wsX2_addDoor) := goodIn_app (goodIn_of _ (by decide +kernel)) ggX6_init_X2_addDoor
set_option maxRecDepth 20000 in
theorem ggX6_init_X2_addLodger : GoodIn wsX6_init wsX2_addLodger := goodIn_r _ [90, 70, 91, 71, 72, 84, 85, 86, 128, 129, 130, 131, 132, 133, 134, 135, 136, 137, 138, 139, 140, 141, 142] (by decide +kernel) (by decide +kernel)
set_option maxRecDepth 20000 in
theorem gX6_init_X2_addLodger : GoodIn wsX6_init (wsV RX6 66 RX2 yX2_addLodger wsX2_addLodger) := goodIn_app (goodIn_of _ (by decide +kernel)) ggX6_init_X2_addLodger
set_option maxRecDepth 20000 in
theorem ggX6_init_X0_beginAs : GoodIn wsX6_init wsX0_beginAs := goodIn_r _ [95, 40, 43, 42, 96, 97, 98, 85, 99, 100, 101, 128, 129, 130, 131, 132, 133, 134, 135, 136, 137, 138, 139, 140, 141, 142, 115, 116, 117, 118, 119, 120] (by decide +kernel) (by decide +kernel)
set_option maxRecDepth 20000 in
theorem gX6_init_X0_beginAs : GoodIn wsX6_init (wsV RX6 69 RX0 yX0_beginAs wsX0_beginAs) := goodIn_app (goodIn_of _ (by decide +kernel)) ggX6_init_X0_beginAs
theorem dX6_init_0 : decode cX6_init 0 = .ok (.aload_n 0, 1) := by decide +kernel
theorem dX6_init_1 : decode cX6_init 1 = .ok (.invokespecial 1, 3) := by decide +kernel
theorem dX6_init_4 : decode cX6_init 4 = .ok (.aload_n 0, 1) := by decide +kernel
theorem dX6_init_5 : decode cX6_init 5 = .ok (.new 7, 3) := by decide +kernel
theorem dX6_init_8 : decode cX6_init 8 = .ok (.dup, 1) := by decide +kernel
theorem dX6_init_9 : decode cX6_init 9 = .ok (.invokespecial 9, 3) := by decide +kernel
theorem dX6_init_12 : decode cX6_init 12 = .ok (.putfield 10, 3) := by decide +kernel
theorem dX6_init_15 : decode cX6_init 15 = .ok (.aload_n 0, 1) := by decide +kernel
theorem dX6_init_16 : decode cX6_init 16 = .ok (.new 16, 3) := by decide +kernel
theorem dX6_init_19 : decode cX6_init 19 = .ok (.dup, 1) := by decide +kernel
theorem dX6_init_20 : decode cX6_init 20 = .ok (.invokespecial 18, 3) := by decide +kernel
theorem dX6_init_23 : decode cX6_init 23 = .ok (.putfield 19, 3) := by decide +kernel
theorem dX6_init_26 : decode cX6_init 26 = .ok (.aload_n 0, 1) := by decide +kernel
theorem dX6_init_27 : decode cX6_init 27 = .ok (.new 16, 3) := by decide +kernel
theorem dX6_init_30 : decode cX6_init 30 = .ok (.dup, 1) := by decide +kernel
theorem dX6_init_31 : decode cX6_init 31 = .ok (.invokespecial 18, 3) := by decide +kernel
theorem dX6_init_34 : decode cX6_init 34 = .ok (.putfield 23, 3) := by decide +kernel
theorem dX6_init_37 : decode cX6_init 37 = .ok (.aload_n 0, 1) := by decide +kernel
theorem dX6_init_38 : decode cX6_init 38 = .ok (.new 26, 3) := by decide +kernel
theorem dX6_init_41 : decode cX6_init 41 = .ok (.dup, 1) := by decide +kernel
theorem dX6_init_42 : decode cX6_init 42 = .ok (.bipush 8, 2) := by decide +kernel
theorem dX6_init_44 : decode cX6_init 44 = .ok (.invokespecial 28, 3) := by decide +kernel
theorem dX6_init_47 : decode cX6_init 47 = .ok (.putfield 31, 3) := by decide +kernel
theorem dX6_init_50 : decode cX6_init 50 = .ok (.aload_n 0, 1) := by decide +kernel
theorem dX6_init_51 : decode cX6_init 51 = .ok (.new 26, 3) := by decide +kernel
theorem dX6_init_54 : decode cX6_init 54 = .ok (.dup, 1) := by decide +kernel
theorem dX6_init_55 : decode cX6_init 55 = .ok (.iconst 2, 1) := by decide +kernel
theorem dX6_init_56 : decode cX6_init 56 = .ok (.invokespecial 28, 3) := by decide +kernel
theorem dX6_init_59 : decode cX6_init 59 = .ok (.putfield 35, 3) := by decide +kernel
theorem dX6_init_62 : decode cX6_init 62 = .ok (.aload_n 0, 1) := by decide +kernel
theorem dX6_init_63 : decode cX6_init 63 = .ok (.new 38, 3) := by decide +kernel
theorem dX6_init_66 : decode cX6_init 66 = .ok (.dup, 1) := by decide +kernel
theorem dX6_init_67 : decode cX6_init 67 = .ok (.invokespecial 40, 3) := by decide +kernel
theorem dX6_init_70 : decode cX6_init 70 = .ok (.putfield 41, 3) := by decide +kernel
theorem dX6_init_73 : decode cX6_init 73 = .ok (.aload_n 0, 1) := by decide +kernel
theorem dX6_init_74 : decode cX6_init 74 = .ok (.new 45, 3) := by decide +kernel
theorem dX6_init_77 : decode cX6_init 77 = .ok (.dup, 1) := by decide +kernel
theorem dX6_init_78 : decode cX6_init 78 = .ok (.invokespecial 47, 3) := by decide +kernel
theorem dX6_init_81 : decode cX6_init 81 = .ok (.putfield 48, 3) := by decide +kernel
theorem dX6_init_84 : decode cX6_init 84 = .ok (.aload_n 0, 1) := by decide +kernel
theorem dX6_init_85 : decode cX6_init 85 = .ok (.new 52, 3) := by decide +kernel
theorem dX6_init_88 : decode cX6_init 88 = .ok (.dup, 1) := by decide +kernel
theorem dX6_init_89 : decode cX6_init 89 = .ok (.invokespecial 54, 3) := by decide +kernel
theorem dX6_init_92 : decode cX6_init 92 = .ok (.putfield 55, 3) := by decide +kernel
theorem dX6_init_95 : decode cX6_init 95 = .ok (.aload_n 0, 1) := by decide +kernel
theorem dX6_init_96 : decode cX6_init 96 = .ok (.new 52, 3) := by decide +kernel
theorem dX6_init_99 : decode cX6_init 99 = .ok (.dup, 1) := by decide +kernel
theorem dX6_init_100 : decode cX6_init 100 = .ok (.invokespecial 54, 3) := by decide +kernel
theorem dX6_init_103 : decode cX6_init 103 = .ok (.putfield 59, 3) := by decide +kernel
theorem dX6_init_106 : decode cX6_init 106 = .ok (.aload_n 0, 1) := by decide +kernel
theorem dX6_init_107 : decode cX6_init 107 = .ok (.getfield 55, 3) := by decide +kernel
theorem dX6_init_110 : decode cX6_init 110 = .ok (.iconst 0, 1) := by decide +kernel
theorem dX6_init_111 : decode cX6_init 111 = .ok (.iconst 1, 1) := by decide +kernel
theorem dX6_init_112 : decode cX6_init 112 = .ok (.iconst 1, 1) := by decide +kernel
theorem dX6_init_113 : decode cX6_init 113 = .ok (.invokevirtual 62, 3) := by decide +kernel
theorem dX6_init_116 : decode cX6_init 116 = .ok (.aload_n 0, 1) := by decide +kernel
theorem dX6_init_117 : decode cX6_init 117 = .ok (.getfield 55, 3) := by decide +kernel
theorem dX6_init_120 : decode cX6_init 120 = .ok (.iconst 1, 1) := by decide +kernel
theorem dX6_init_121 : decode cX6_init 121 = .ok (.iconst 2, 1) := by decide +kernel
theorem dX6_init_122 : decode cX6_init 122 = .ok (.iconst 0, 1) := by decide +kernel
theorem dX6_init_123 : decode cX6_init 123 = .ok (.invokevirtual 62, 3) := by decide +kernel
theorem dX6_init_126 : decode cX6_init 126 = .ok (.aload_n 0, 1) := by decide +kernel
theorem dX6_init_127 : decode cX6_init 127 = .ok (.getfield 55, 3) := by decide +kernel
theorem dX6_init_130 : decode cX6_init 130 = .ok (.iconst 0, 1) := by decide +kernel
theorem dX6_init_131 : decode cX6_init 131 = .ok (.iconst 5, 1) := by decide +kernel
theorem dX6_init_132 : decode cX6_init 132 = .ok (.iconst 2, 1) := by decide +kernel
theorem dX6_init_133 : decode cX6_init 133 = .ok (.invokevirtual 66, 3) := by decide +kernel
theorem dX6_init_136 : decode cX6_init 136 = .ok (.aload_n 0, 1) := by decide +kernel
theorem dX6_init_137 : decode cX6_init 137 = .ok (.getfield 55, 3) := by decide +kernel
theorem dX6_init_140 : decode cX6_init 140 = .ok (.iconst 2, 1) := by decide +kernel
theorem dX6_init_141 : decode cX6_init 141 = .ok (.iconst 3, 1) := by decide +kernel
theorem dX6_init_142 : decode cX6_init 142 = .ok (.iconst 0, 1) := by decide +kernel
theorem dX6_init_143 : decode cX6_init 143 = .ok (.invokevirtual 66, 3) := by decide +kernel
theorem dX6_init_146 : decode cX6_init 146 = .ok (.aload_n 0, 1) := by decide +kernel
theorem dX6_init_147 : decode cX6_init 147 = .ok (.getfield 19, 3) := by decide +kernel
theorem dX6_init_150 : decode cX6_init 150 = .ok (.aload_n 0, 1) := by decide +kernel
theorem dX6_init_151 : decode cX6_init 151 = .ok (.getfield 55, 3) := by decide +kernel
theorem dX6_init_154 : decode cX6_init 154 = .ok (.invokevirtual 69, 3) := by decide +kernel
theorem dX6_init_157 : decode cX6_init 157 = .ok (.return_, 1) := by decide +kernel
set_option maxRecDepth 20000 in
theorem ggX6_write_X6_within : GoodIn wsX6_write wsX6_within := goodIn_r _ [5] (by decide +kernel) (by decide +kernel)
set_option maxRecDepth 20000 in
theorem gX6_write_X6_within : GoodIn wsX6_write (va_wsS RX6 73 yX6_within wsX6_within) := goodIn_app (goodIn_of _ (by decide +kernel)) ggX6_write_X6_within
set_option maxRecDepth 20000 in
theorem ggX6_write_X4_append : GoodIn wsX6_write wsX4_append := goodIn_r _ [10, 11, 12, 13, 4, 14, 24, 25, 26, 27] (by decide +kernel) (by decide +kernel)
set_option maxRecDepth 20000 in
theorem gX6_write_X4_append : GoodIn wsX6_write (wsV RX6 81 RX4 yX4_append wsX4_append) := goodIn_app (goodIn_of _ (by decide +kernel)) ggX6_write_X4_append
theorem dX6_write_0 : decode cX6_write 0 = .ok (.iload_n 1, 1) := by decide +kernel
theorem dX6_write_1 : decode cX6_write 1 = .ok (.iconst 1, 1) := by decide +kernel
theorem dX6_write_2 : decode cX6_write 2 = .ok (.bipush 8, 2) := by decide +kernel
theorem dX6_write_4 : decode cX6_write 4 = .ok (.invokestatic 73, 3) := by decide +kernel
theorem dX6_write_7 : decode cX6_write 7 = .ok (.ifCond .ne 5, 3) := by decide +kernel
theorem dX6_write_10 : decode cX6_write 10 = .ok (.iconst (-1), 1) := by decide +kernel
theorem dX6_write_11 : decode cX6_write 11 = .ok (.ireturn, 1) := by decide +kernel
theorem dX6_write_12 : decode cX6_write 12 = .ok (.aload_n 0, 1) := by decide +kernel
theorem dX6_write_13 : decode cX6_write 13 = .ok (.getfield 10, 3) := by decide +kernel
theorem dX6_write_16 : decode cX6_write 16 = .ok (.getfield 77, 3) := by decide +kernel
theorem dX6_write_19 : decode cX6_write 19 = .ok (.iload_n 1, 1) := by decide +kernel
theorem dX6_write_20 : decode cX6_write 20 = .ok (.iadd, 1) := by decide +kernel
theorem dX6_write_21 : decode cX6_write 21 = .ok (.sipush 300, 3) := by decide +kernel
theorem dX6_write_24 : decode cX6_write 24 = .ok (.if_icmp .le 6, 3) := by decide +kernel
theorem dX6_write_27 : decode cX6_write 27 = .ok (.bipush (-3), 2) := by decide +kernel
theorem dX6_write_29 : decode cX6_write 29 = .ok (.ireturn, 1) := by decide +kernel
theorem dX6_write_30 : decode cX6_write 30 = .ok (.iload_n 1, 1) := by decide +kernel
theorem dX6_write_31 : decode cX6_write 31 = .ok (.iconst 1, 1) := by decide +kernel
theorem dX6_write_32 : decode cX6_write 32 = .ok (.isub, 1) := by decide +kernel
theorem dX6_write_33 : decode cX6_write 33 = .ok (.istore 4, 2) := by decide +kernel
theorem dX6_write_35 : decode cX6_write 35 = .ok (.iload 4, 2) := by decide +kernel
theorem dX6_write_37 : decode cX6_write 37 = .ok (.ifCond .lt 28, 3) := by decide +kernel
theorem dX6_write_40 : decode cX6_write 40 = .ok (.aload_n 0, 1) := by decide +kernel
theorem dX6_write_41 : decode cX6_write 41 = .ok (.getfield 10, 3) := by decide +kernel
theorem dX6_write_44 : decode cX6_write 44 = .ok (.lload_n 2, 1) := by decide +kernel
theorem dX6_write_45 : decode cX6_write 45 = .ok (.bipush 8, 2) := by decide +kernel
theorem dX6_write_47 : decode cX6_write 47 = .ok (.iload 4, 2) := by decide +kernel
theorem dX6_write_49 : decode cX6_write 49 = .ok (.imul, 1) := by decide +kernel
theorem dX6_write_50 : decode cX6_write 50 = .ok (.lushr, 1) := by decide +kernel
theorem dX6_write_51 : decode cX6_write 51 = .ok (.l2i, 1) := by decide +kernel
theorem dX6_write_52 : decode cX6_write 52 = .ok (.sipush 255, 3) := by decide +kernel
theorem dX6_write_55 : decode cX6_write 55 = .ok (.iand, 1) := by decide +kernel
theorem dX6_write_56 : decode cX6_write 56 = .ok (.invokevirtual 81, 3) := by decide +kernel
theorem dX6_write_59 : decode cX6_write 59 = .ok (.iinc 4 (-1), 3) := by decide +kernel
theorem dX6_write_62 : decode cX6_write 62 = .ok (.goto (-27), 3) := by decide +kernel
theorem dX6_write_65 : decode cX6_write 65 = .ok (.aload_n 0, 1) := by decide +kernel
theorem dX6_write_66 : decode cX6_write 66 = .ok (.getfield 10, 3) := by decide +kernel
theorem dX6_write_69 : decode cX6_write 69 = .ok (.getfield 77, 3) := by decide +kernel
theorem dX6_write_72 : decode cX6_write 72 = .ok (.ireturn, 1) := by decide +kernel
theorem dX6_wipe_0 : decode cX6_wipe 0 = .ok (.aload_n 0, 1) := by decide +kernel
theorem dX6_wipe_1 : decode cX6_wipe 1 = .ok (.getfield 10, 3) := by decide +kernel
theorem dX6_wipe_4 : decode cX6_wipe 4 = .ok (.getfield 77, 3) := by decide +kernel
theorem dX6_wipe_7 : decode cX6_wipe 7 = .ok (.istore_n 1, 1) := by decide +kernel
theorem dX6_wipe_8 : decode cX6_wipe 8 = .ok (.aload_n 0, 1) := by decide +kernel
theorem dX6_wipe_9 : decode cX6_wipe 9 = .ok (.getfield 10, 3) := by decide +kernel
theorem dX6_wipe_12 : decode cX6_wipe 12 = .ok (.iconst 0, 1) := by decide +kernel
theorem dX6_wipe_13 : decode cX6_wipe 13 = .ok (.putfield 77, 3) := by decide +kernel
theorem dX6_wipe_16 : decode cX6_wipe 16 = .ok (.iload_n 1, 1) := by decide +kernel
theorem dX6_wipe_17 : decode cX6_wipe 17 = .ok (.ireturn, 1) := by decide +kernel
set_option maxRecDepth 20000 in
theorem ggX6_fault_X4_readInto : GoodIn wsX6_fault wsX4_readInto := goodIn_r _ [7, 8, 9, 10, 11, 12, 13, 14, 15, 16, 17, 18, 19, 20, 21, 22, 23, 24, 25, 26, 27, 28, 29, 30, 6, 31, 32, 33, 34, 35, 36, 37, 38, 39, 40, 41, 42, 43, 44, 45, 46, 47, 48, 49, 50, 51, 52, 53, 54, 55, 56, 57, 58, 59, 60, 61, 62, 63, 64, 65, 66, 67, 68, 69, 70, 71, 72, 73, 74, 75, 76, 77, 78, 79, 80, 81, 82, 83, 84, 85, 86, 87, 88, 89, 90, 91, 92, 93, 94, 95, 96, 97, 98, 99, 100, 101, 102, 103, 104, 114, 115, 116, 117, 118, 119, 120, 121, 122, 123, 124, 125, 126, 127, 128, 129, 130, 131, 132] (by decide +kernel) (by decide +kernel)
set_option maxRecDepth 20000 in
theorem gX6_fault_X4_readInto : GoodIn wsX6_fault (wsV RX6 84 RX4 yX4_readInto wsX4_readInto) := goodIn_app (goodIn_of _ (by decide +kernel)) ggX6_fault_X4_readInto
theorem dX6_fault_0 : decode cX6_fault 0 = .ok (.aload_n 0, 1) := by decide +kernel
theorem dX6_fault_1 : decode cX6_fault 1 = .ok (.getfield 10, 3) := by decide +kernel
theorem dX6_fault_4 : decode cX6_fault 4 = .ok (.aload_n 0, 1) := by decide +kernel
theorem dX6_fault_5 : decode cX6_fault 5 = .ok (.getfield 59, 3) := by decide +kernel
theorem dX6_fault_8 : decode cX6_fault 8 = .ok (.invokevirtual 84, 3) := by decide +kernel
theorem dX6_fault_11 : decode cX6_fault 11 = .ok (.ireturn, 1) := by decide +kernel
set_option maxRecDepth 20000 in
theorem ggX6_lay_X4_readInto : GoodIn wsX6_lay wsX4_readInto := goodIn_r _ [11, 12, 13, 14, 15, 16, 17, 18, 19, 20, 21, 22, 23, 24, 25, 26, 27, 28, 29, 30, 31, 32, 33, 34, 10, 35, 36, 37, 38, 39, 40, 41, 42, 43, 44, 45, 46, 47, 48, 49, 50, 51, 52, 53, 54, 55, 56, 57, 58, 59, 60, 61, 62, 63, 64, 65, 66, 67, 68, 69, 70, 71, 72, 73, 74, 75, 76, 77, 78, 79, 80, 81, 82, 83, 84, 85, 86, 87, 88, 89, 90, 91, 92, 93, 94, 95, 96, 97, 98, 99, 100, 101, 102, 103, 104, 105, 106, 107, 108, 155, 156, 157, 158, 140, 141, 142, 143, 144, 145, 146, 147, 148, 149, 150, 151, 152, 153, 154] (by decide +kernel) (by decide +kernel)
set_option maxRecDepth 20000 in
theorem gX6_lay_X4_readInto : GoodIn wsX6_lay (wsV RX6 84 RX4 yX4_readInto wsX4_readInto) := goodIn_app (goodIn_of _ (by decide +kernel)) ggX6_lay_X4_readInto
set_option maxRecDepth 20000 in
theorem ggX6_lay_X2_canStand : GoodIn wsX6_lay wsX2_canStand := goodIn_r _ [112, 23, 77, 24, 86, 22, 88, 49, 30, 50, 140, 141, 142, 143, 144, 145, 146, 147, 148, 149, 150, 151, 152, 153, 154] (by decide +kernel) (by decide +kernel)
set_option maxRecDepth 20000 in
theorem gX6_lay_X2_canStand : GoodIn wsX6_lay (wsV RX6 88 RX2 yX2_canStand wsX2_canStand) := goodIn_app (goodIn_of _ (by decide +kernel)) ggX6_lay_X2_canStand
set_option maxRecDepth 20000 in
theorem ggX6_lay_X0_beginAs : GoodIn wsX6_lay wsX0_beginAs := goodIn_r _ [117, 118, 119, 120, 121, 122, 123, 30, 124, 29, 31, 140, 141, 142, 143, 144, 145, 146, 147, 148, 149, 150, 151, 152, 153, 154, 159, 160, 161, 162, 163, 164] (by decide +kernel) (by decide +kernel)
set_option maxRecDepth 20000 in
theorem gX6_lay_X0_beginAs : GoodIn wsX6_lay (wsV RX6 69 RX0 yX0_beginAs wsX0_beginAs) := goodIn_app (goodIn_of _ (by decide +kernel)) ggX6_lay_X0_beginAs
set_option maxRecDepth 20000 in
theorem ggX6_lay_X1_forgetAll : GoodIn wsX6_lay wsX1_forgetAll := goodIn_r _ [129, 130, 165, 166] (by decide +kernel) (by decide +kernel)
set_option maxRecDepth 20000 in
theorem gX6_lay_X1_forgetAll : GoodIn wsX6_lay (wsV RX6 92 RX1 yX1_forgetAll wsX1_forgetAll) := goodIn_app (goodIn_of _ (by decide +kernel)) ggX6_lay_X1_forgetAll
theorem dX6_lay_0 : decode cX6_lay 0 = .ok (.aload_n 0, 1) := by decide +kernel
theorem dX6_lay_1 : decode cX6_lay 1 = .ok (.getfield 10, 3) := by decide +kernel
theorem dX6_lay_4 : decode cX6_lay 4 = .ok (.aload_n 0, 1) := by decide +kernel
theorem dX6_lay_5 : decode cX6_lay 5 = .ok (.getfield 59, 3) := by decide +kernel
theorem dX6_lay_8 : decode cX6_lay 8 = .ok (.invokevirtual 84, 3) := by decide +kernel
theorem dX6_lay_11 : decode cX6_lay 11 = .ok (.bipush (-4), 2) := by decide +kernel
theorem dX6_lay_13 : decode cX6_lay 13 = .ok (.if_icmp .ne 13, 3) := by decide +kernel
theorem dX6_lay_16 : decode cX6_lay 16 = .ok (.aload_n 0, 1) := by decide +kernel
theorem dX6_lay_17 : decode cX6_lay 17 = .ok (.getfield 59, 3) := by decide +kernel
theorem dX6_lay_20 : decode cX6_lay 20 = .ok (.invokevirtual 88, 3) := by decide +kernel
theorem dX6_lay_23 : decode cX6_lay 23 = .ok (.ifCond .ne 6, 3) := by decide +kernel
theorem dX6_lay_26 : decode cX6_lay 26 = .ok (.bipush (-2), 2) := by decide +kernel
theorem dX6_lay_28 : decode cX6_lay 28 = .ok (.ireturn, 1) := by decide +kernel
theorem dX6_lay_29 : decode cX6_lay 29 = .ok (.aload_n 0, 1) := by decide +kernel
theorem dX6_lay_30 : decode cX6_lay 30 = .ok (.getfield 59, 3) := by decide +kernel
theorem dX6_lay_33 : decode cX6_lay 33 = .ok (.astore_n 1, 1) := by decide +kernel
theorem dX6_lay_34 : decode cX6_lay 34 = .ok (.aload_n 0, 1) := by decide +kernel
theorem dX6_lay_35 : decode cX6_lay 35 = .ok (.aload_n 0, 1) := by decide +kernel
theorem dX6_lay_36 : decode cX6_lay 36 = .ok (.getfield 55, 3) := by decide +kernel
theorem dX6_lay_39 : decode cX6_lay 39 = .ok (.putfield 59, 3) := by decide +kernel
theorem dX6_lay_42 : decode cX6_lay 42 = .ok (.aload_n 0, 1) := by decide +kernel
theorem dX6_lay_43 : decode cX6_lay 43 = .ok (.aload_n 1, 1) := by decide +kernel
theorem dX6_lay_44 : decode cX6_lay 44 = .ok (.putfield 55, 3) := by decide +kernel
theorem dX6_lay_47 : decode cX6_lay 47 = .ok (.aload_n 0, 1) := by decide +kernel
theorem dX6_lay_48 : decode cX6_lay 48 = .ok (.getfield 19, 3) := by decide +kernel
theorem dX6_lay_51 : decode cX6_lay 51 = .ok (.aload_n 0, 1) := by decide +kernel
theorem dX6_lay_52 : decode cX6_lay 52 = .ok (.getfield 55, 3) := by decide +kernel
theorem dX6_lay_55 : decode cX6_lay 55 = .ok (.invokevirtual 69, 3) := by decide +kernel
theorem dX6_lay_58 : decode cX6_lay 58 = .ok (.aload_n 0, 1) := by decide +kernel
theorem dX6_lay_59 : decode cX6_lay 59 = .ok (.getfield 31, 3) := by decide +kernel
theorem dX6_lay_62 : decode cX6_lay 62 = .ok (.invokevirtual 92, 3) := by decide +kernel
theorem dX6_lay_65 : decode cX6_lay 65 = .ok (.aload_n 0, 1) := by decide +kernel
theorem dX6_lay_66 : decode cX6_lay 66 = .ok (.getfield 35, 3) := by decide +kernel
theorem dX6_lay_69 : decode cX6_lay 69 = .ok (.invokevirtual 92, 3) := by decide +kernel
theorem dX6_lay_72 : decode cX6_lay 72 = .ok (.aload_n 0, 1) := by decide +kernel
theorem dX6_lay_73 : decode cX6_lay 73 = .ok (.getfield 55, 3) := by decide +kernel
theorem dX6_lay_76 : decode cX6_lay 76 = .ok (.getfield 95, 3) := by decide +kernel
theorem dX6_lay_79 : decode cX6_lay 79 = .ok (.ireturn, 1) := by decide +kernel
set_option maxRecDepth 20000 in
theorem ggX6_door_X6_isDoor : GoodIn wsX6_door wsX6_isDoor := goodIn_r _ [7, 1, 11, 12, 13, 14, 15, 16, 17, 18, 19, 20, 21, 22, 23, 24, 25, 26, 27, 28, 29, 30, 31, 32, 33, 34] (by decide +kernel) (by decide +kernel)
set_option maxRecDepth 20000 in
theorem gX6_door_X6_isDoor : GoodIn wsX6_door (wsV RX6 98 RX6 yX6_isDoor wsX6_isDoor) := goodIn_app (goodIn_of _ (by decide +kernel)) ggX6_door_X6_isDoor
set_option maxRecDepth 20000 in
theorem ggX6_door_X6_at : GoodIn wsX6_door wsX6_at := goodIn_r _ [10] (by decide +kernel) (by decide +kernel)
set_option maxRecDepth 20000 in
theorem gX6_door_X6_at : GoodIn wsX6_door (va_wsS RX6 106 yX6_at wsX6_at) := goodIn_app (goodIn_of _ (by decide +kernel)) ggX6_door_X6_at
theorem dX6_door_0 : decode cX6_door 0 = .ok (.aload_n 0, 1) := by decide +kernel
theorem dX6_door_1 : decode cX6_door 1 = .ok (.iload_n 1, 1) := by decide +kernel
theorem dX6_door_2 : decode cX6_door 2 = .ok (.invokevirtual 98, 3) := by decide +kernel
theorem dX6_door_5 : decode cX6_door 5 = .ok (.ifCond .ne 5, 3) := by decide +kernel
theorem dX6_door_8 : decode cX6_door 8 = .ok (.iconst (-1), 1) := by decide +kernel
theorem dX6_door_9 : decode cX6_door 9 = .ok (.ireturn, 1) := by decide +kernel
theorem dX6_door_10 : decode cX6_door 10 = .ok (.iload_n 2, 1) := by decide +kernel
theorem dX6_door_11 : decode cX6_door 11 = .ok (.tableswitch 93 0 4 #[33, 45, 57, 69, 81], 33) := by decide +kernel
theorem dX6_door_44 : decode cX6_door 44 = .ok (.aload_n 0, 1) := by decide +kernel
theorem dX6_door_45 : decode cX6_door 45 = .ok (.getfield 55, 3) := by decide +kernel
theorem dX6_door_48 : decode cX6_door 48 = .ok (.getfield 102, 3) := by decide +kernel
theorem dX6_door_51 : decode cX6_door 51 = .ok (.iload_n 1, 1) := by decide +kernel
theorem dX6_door_52 : decode cX6_door 52 = .ok (.invokestatic 106, 3) := by decide +kernel
theorem dX6_door_55 : decode cX6_door 55 = .ok (.ireturn, 1) := by decide +kernel
theorem dX6_door_56 : decode cX6_door 56 = .ok (.aload_n 0, 1) := by decide +kernel
theorem dX6_door_57 : decode cX6_door 57 = .ok (.getfield 55, 3) := by decide +kernel
theorem dX6_door_60 : decode cX6_door 60 = .ok (.getfield 110, 3) := by decide +kernel
theorem dX6_door_63 : decode cX6_door 63 = .ok (.iload_n 1, 1) := by decide +kernel
theorem dX6_door_64 : decode cX6_door 64 = .ok (.invokestatic 106, 3) := by decide +kernel
theorem dX6_door_67 : decode cX6_door 67 = .ok (.ireturn, 1) := by decide +kernel
theorem dX6_door_68 : decode cX6_door 68 = .ok (.aload_n 0, 1) := by decide +kernel
theorem dX6_door_69 : decode cX6_door 69 = .ok (.getfield 55, 3) := by decide +kernel
theorem dX6_door_72 : decode cX6_door 72 = .ok (.getfield 113, 3) := by decide +kernel
theorem dX6_door_75 : decode cX6_door 75 = .ok (.iload_n 1, 1) := by decide +kernel
theorem dX6_door_76 : decode cX6_door 76 = .ok (.invokestatic 106, 3) := by decide +kernel
theorem dX6_door_79 : decode cX6_door 79 = .ok (.ireturn, 1) := by decide +kernel
theorem dX6_door_80 : decode cX6_door 80 = .ok (.aload_n 0, 1) := by decide +kernel
theorem dX6_door_81 : decode cX6_door 81 = .ok (.getfield 19, 3) := by decide +kernel
theorem dX6_door_84 : decode cX6_door 84 = .ok (.getfield 116, 3) := by decide +kernel
theorem dX6_door_87 : decode cX6_door 87 = .ok (.iload_n 1, 1) := by decide +kernel
theorem dX6_door_88 : decode cX6_door 88 = .ok (.invokestatic 106, 3) := by decide +kernel
theorem dX6_door_91 : decode cX6_door 91 = .ok (.ireturn, 1) := by decide +kernel
theorem dX6_door_92 : decode cX6_door 92 = .ok (.aload_n 0, 1) := by decide +kernel
theorem dX6_door_93 : decode cX6_door 93 = .ok (.getfield 55, 3) := by decide +kernel
theorem dX6_door_96 : decode cX6_door 96 = .ok (.getfield 119, 3) := by decide +kernel
theorem dX6_door_99 : decode cX6_door 99 = .ok (.iload_n 1, 1) := by decide +kernel
theorem dX6_door_100 : decode cX6_door 100 = .ok (.invokestatic 106, 3) := by decide +kernel
theorem dX6_door_103 : decode cX6_door 103 = .ok (.ireturn, 1) := by decide +kernel
theorem dX6_door_104 : decode cX6_door 104 = .ok (.iconst (-1), 1) := by decide +kernel
theorem dX6_door_105 : decode cX6_door 105 = .ok (.ireturn, 1) := by decide +kernel
set_option maxRecDepth 20000 in
theorem ggX6_lodger_X6_isLodger : GoodIn wsX6_lodger wsX6_isLodger := goodIn_r _ [7, 2, 11, 12, 13, 14, 15, 16, 17, 18, 19, 26, 27, 28, 29, 30, 31, 32, 33, 34, 35, 36, 37, 38, 39, 40] (by decide +kernel) (by decide +kernel)
set_option maxRecDepth 20000 in
theorem gX6_lodger_X6_isLodger : GoodIn wsX6_lodger (wsV RX6 122 RX6 yX6_isLodger wsX6_isLodger) := goodIn_app (goodIn_of _ (by decide +kernel)) ggX6_lodger_X6_isLodger
set_option maxRecDepth 20000 in
theorem ggX6_lodger_X6_at : GoodIn wsX6_lodger wsX6_at := goodIn_r _ [10] (by decide +kernel) (by decide +kernel)
set_option maxRecDepth 20000 in
theorem gX6_lodger_X6_at : GoodIn wsX6_lodger (va_wsS RX6 106 yX6_at wsX6_at) := goodIn_app (goodIn_of _ (by decide +kernel)) ggX6_lodger_X6_at
theorem dX6_lodger_0 : decode cX6_lodger 0 = .ok (.aload_n 0, 1) := by decide +kernel
theorem dX6_lodger_1 : decode cX6_lodger 1 = .ok (.iload_n 1, 1) := by decide +kernel
theorem dX6_lodger_2 : decode cX6_lodger 2 = .ok (.invokevirtual 122, 3) := by decide +kernel
theorem dX6_lodger_5 : decode cX6_lodger 5 = .ok (.ifCond .ne 5, 3) := by decide +kernel
theorem dX6_lodger_8 : decode cX6_lodger 8 = .ok (.iconst (-1), 1) := by decide +kernel
theorem dX6_lodger_9 : decode cX6_lodger 9 = .ok (.ireturn, 1) := by decide +kernel
theorem dX6_lodger_10 : decode cX6_lodger 10 = .ok (.iload_n 2, 1) := by decide +kernel
theorem dX6_lodger_11 : decode cX6_lodger 11 = .ok (.tableswitch 61 0 2 #[25, 37, 49], 25) := by decide +kernel
theorem dX6_lodger_36 : decode cX6_lodger 36 = .ok (.aload_n 0, 1) := by decide +kernel
theorem dX6_lodger_37 : decode cX6_lodger 37 = .ok (.getfield 19, 3) := by decide +kernel
theorem dX6_lodger_40 : decode cX6_lodger 40 = .ok (.getfield 125, 3) := by decide +kernel
theorem dX6_lodger_43 : decode cX6_lodger 43 = .ok (.iload_n 1, 1) := by decide +kernel
theorem dX6_lodger_44 : decode cX6_lodger 44 = .ok (.invokestatic 106, 3) := by decide +kernel
theorem dX6_lodger_47 : decode cX6_lodger 47 = .ok (.ireturn, 1) := by decide +kernel
theorem dX6_lodger_48 : decode cX6_lodger 48 = .ok (.aload_n 0, 1) := by decide +kernel
theorem dX6_lodger_49 : decode cX6_lodger 49 = .ok (.getfield 55, 3) := by decide +kernel
theorem dX6_lodger_52 : decode cX6_lodger 52 = .ok (.getfield 128, 3) := by decide +kernel
theorem dX6_lodger_55 : decode cX6_lodger 55 = .ok (.iload_n 1, 1) := by decide +kernel
theorem dX6_lodger_56 : decode cX6_lodger 56 = .ok (.invokestatic 106, 3) := by decide +kernel
theorem dX6_lodger_59 : decode cX6_lodger 59 = .ok (.ireturn, 1) := by decide +kernel
theorem dX6_lodger_60 : decode cX6_lodger 60 = .ok (.aload_n 0, 1) := by decide +kernel
theorem dX6_lodger_61 : decode cX6_lodger 61 = .ok (.getfield 55, 3) := by decide +kernel
theorem dX6_lodger_64 : decode cX6_lodger 64 = .ok (.getfield 131, 3) := by decide +kernel
theorem dX6_lodger_67 : decode cX6_lodger 67 = .ok (.iload_n 1, 1) := by decide +kernel
theorem dX6_lodger_68 : decode cX6_lodger 68 = .ok (.invokestatic 106, 3) := by decide +kernel
theorem dX6_lodger_71 : decode cX6_lodger 71 = .ok (.ireturn, 1) := by decide +kernel
theorem dX6_lodger_72 : decode cX6_lodger 72 = .ok (.iconst (-1), 1) := by decide +kernel
theorem dX6_lodger_73 : decode cX6_lodger 73 = .ok (.ireturn, 1) := by decide +kernel
set_option maxRecDepth 20000 in
theorem ggX6_grudge_X6_isDoor : GoodIn wsX6_grudge wsX6_isDoor := goodIn_r _ [6, 7, 20, 21, 22, 23, 24, 25, 26, 27, 28, 29, 30, 31, 32, 33, 34, 35, 36, 37, 38, 39, 40, 41, 42, 43] (by decide +kernel) (by decide +kernel)
set_option maxRecDepth 20000 in
theorem gX6_grudge_X6_isDoor : GoodIn wsX6_grudge (wsV RX6 98 RX6 yX6_isDoor wsX6_isDoor) := goodIn_app (goodIn_of _ (by decide +kernel)) ggX6_grudge_X6_isDoor
set_option maxRecDepth 20000 in
theorem ggX6_grudge_X6_isLodger : GoodIn wsX6_grudge wsX6_isLodger := goodIn_r _ [11, 7, 20, 21, 22, 23, 24, 25, 26, 27, 28, 29, 30, 31, 32, 33, 34, 35, 36, 37, 38, 39, 40, 41, 42, 43] (by decide +kernel) (by decide +kernel)
set_option maxRecDepth 20000 in
theorem gX6_grudge_X6_isLodger : GoodIn wsX6_grudge (wsV RX6 122 RX6 yX6_isLodger wsX6_isLodger) := goodIn_app (goodIn_of _ (by decide +kernel)) ggX6_grudge_X6_isLodger
set_option maxRecDepth 20000 in
theorem ggX6_grudge_X0_grudgeOf : GoodIn wsX6_grudge wsX0_grudgeOf := goodIn_r _ [16, 17, 18, 5, 19, 44, 45, 46, 47, 48, 49] (by decide +kernel) (by decide +kernel)
set_option maxRecDepth 20000 in
theorem gX6_grudge_X0_grudgeOf : GoodIn wsX6_grudge (wsV RX6 134 RX0 yX0_grudgeOf wsX0_grudgeOf) := goodIn_app (goodIn_of _ (by decide +kernel)) ggX6_grudge_X0_grudgeOf
theorem dX6_grudge_0 : decode cX6_grudge 0 = .ok (.aload_n 0, 1) := by decide +kernel
theorem dX6_grudge_1 : decode cX6_grudge 1 = .ok (.iload_n 1, 1) := by decide +kernel
theorem dX6_grudge_2 : decode cX6_grudge 2 = .ok (.invokevirtual 98, 3) := by decide +kernel
theorem dX6_grudge_5 : decode cX6_grudge 5 = .ok (.ifCond .eq 23, 3) := by decide +kernel
theorem dX6_grudge_8 : decode cX6_grudge 8 = .ok (.aload_n 0, 1) := by decide +kernel
theorem dX6_grudge_9 : decode cX6_grudge 9 = .ok (.iload_n 2, 1) := by decide +kernel
theorem dX6_grudge_10 : decode cX6_grudge 10 = .ok (.invokevirtual 122, 3) := by decide +kernel
theorem dX6_grudge_13 : decode cX6_grudge 13 = .ok (.ifCond .eq 15, 3) := by decide +kernel
theorem dX6_grudge_16 : decode cX6_grudge 16 = .ok (.aload_n 0, 1) := by decide +kernel
theorem dX6_grudge_17 : decode cX6_grudge 17 = .ok (.getfield 19, 3) := by decide +kernel
theorem dX6_grudge_20 : decode cX6_grudge 20 = .ok (.iload_n 1, 1) := by decide +kernel
theorem dX6_grudge_21 : decode cX6_grudge 21 = .ok (.iload_n 2, 1) := by decide +kernel
theorem dX6_grudge_22 : decode cX6_grudge 22 = .ok (.invokevirtual 134, 3) := by decide +kernel
theorem dX6_grudge_25 : decode cX6_grudge 25 = .ok (.goto 4, 3) := by decide +kernel
theorem dX6_grudge_28 : decode cX6_grudge 28 = .ok (.iconst (-1), 1) := by decide +kernel
theorem dX6_grudge_29 : decode cX6_grudge 29 = .ok (.ireturn, 1) := by decide +kernel
set_option maxRecDepth 20000 in
theorem ggX6_go_X6_isLodger : GoodIn wsX6_go wsX6_isLodger := goodIn_r _ [8, 1, 90, 91, 92, 93, 94, 95, 96, 97, 98, 105, 106, 107, 108, 109, 110, 111, 112, 113, 114, 115, 116, 117, 118, 119] (by decide +kernel) (by decide +kernel)
set_option maxRecDepth 20000 in
theorem gX6_go_X6_isLodger : GoodIn wsX6_go (wsV RX6 122 RX6 yX6_isLodger wsX6_isLodger) := goodIn_app (goodIn_of _ (by decide +kernel)) ggX6_go_X6_isLodger
set_option maxRecDepth 20000 in
theorem ggX6_go_X6_isDoor : GoodIn wsX6_go wsX6_isDoor := goodIn_r _ [12, 1, 90, 91, 92, 93, 94, 95, 96, 97, 98, 105, 106, 107, 108, 109, 110, 111, 112, 113, 114, 115, 116, 117, 118, 119] (by decide +kernel) (by decide +kernel)
set_option maxRecDepth 20000 in
theorem gX6_go_X6_isDoor : GoodIn wsX6_go (wsV RX6 98 RX6 yX6_isDoor wsX6_isDoor) := goodIn_app (goodIn_of _ (by decide +kernel)) ggX6_go_X6_isDoor
set_option maxRecDepth 20000 in
theorem ggX6_go_X6_at : GoodIn wsX6_go wsX6_at := goodIn_r _ [15] (by decide +kernel) (by decide +kernel)
set_option maxRecDepth 20000 in
theorem gX6_go_X6_at : GoodIn wsX6_go (va_wsS RX6 106 yX6_at wsX6_at) := goodIn_app (goodIn_of _ (by decide +kernel)) ggX6_go_X6_at
set_option maxRecDepth 20000 in
theorem ggX6_go_X2_otherSide : GoodIn wsX6_go wsX2_otherSide := goodIn_r _ [20, 21, 22, 14, 7, 15, 105, 106, 107, 108, 109, 110, 111, 112, 113, 114, 115, 116, 117, 118, 119] (by decide +kernel) (by decide +kernel)
set_option maxRecDepth 20000 in
theorem gX6_go_X2_otherSide : GoodIn wsX6_go (wsV RX6 138 RX2 yX2_otherSide wsX2_otherSide) := goodIn_app (goodIn_of _ (by decide +kernel)) ggX6_go_X2_otherSide
set_option maxRecDepth 20000 in
theorem ggX6_go_X1_push : GoodIn wsX6_go wsX1_push := goodIn_r _ [27, 28, 29, 30, 31, 32, 26, 33, 34, 35, 36, 37, 38, 39, 40, 41, 42, 43, 44, 45, 46, 47, 48, 7, 49, 120, 121, 99, 100, 101, 102, 103, 104] (by decide +kernel) (by decide +kernel)
set_option maxRecDepth 20000 in
theorem gX6_go_X1_push : GoodIn wsX6_go (wsV RX6 141 RX1 yX1_push wsX1_push) := goodIn_app (goodIn_of _ (by decide +kernel)) ggX6_go_X1_push
set_option maxRecDepth 20000 in
theorem ggX6_go_X0_passThrough : GoodIn wsX6_go wsX0_passThrough := goodIn_r _ [53, 46, 45, 54, 55, 56, 41, 57, 58, 59, 60, 61, 44, 14, 7, 15, 62, 63, 64, 65, 43, 66, 17, 18, 19, 20, 21, 22, 67, 68, 69, 70, 71, 72, 73, 74, 75, 76, 77, 78, 79, 80, 81, 82, 83, 84, 85, 86, 87, 88, 89, 99, 100, 101, 102, 103, 104, 105, 106, 107, 108, 109, 110, 111, 112, 113, 114, 115, 116, 117, 118, 119] (by decide +kernel) (by decide +kernel)
set_option maxRecDepth 20000 in
theorem gX6_go_X0_passThrough : GoodIn wsX6_go (wsV RX6 145 RX0 yX0_passThrough wsX0_passThrough) := goodIn_app (goodIn_of _ (by decide +kernel)) ggX6_go_X0_passThrough
theorem dX6_go_0 : decode cX6_go 0 = .ok (.aload_n 0, 1) := by decide +kernel
theorem dX6_go_1 : decode cX6_go 1 = .ok (.iload_n 1, 1) := by decide +kernel
theorem dX6_go_2 : decode cX6_go 2 = .ok (.invokevirtual 122, 3) := by decide +kernel
theorem dX6_go_5 : decode cX6_go 5 = .ok (.ifCond .eq 11, 3) := by decide +kernel
theorem dX6_go_8 : decode cX6_go 8 = .ok (.aload_n 0, 1) := by decide +kernel
theorem dX6_go_9 : decode cX6_go 9 = .ok (.iload_n 2, 1) := by decide +kernel
theorem dX6_go_10 : decode cX6_go 10 = .ok (.invokevirtual 98, 3) := by decide +kernel
theorem dX6_go_13 : decode cX6_go 13 = .ok (.ifCond .ne 5, 3) := by decide +kernel
theorem dX6_go_16 : decode cX6_go 16 = .ok (.iconst (-1), 1) := by decide +kernel
theorem dX6_go_17 : decode cX6_go 17 = .ok (.ireturn, 1) := by decide +kernel
theorem dX6_go_18 : decode cX6_go 18 = .ok (.aload_n 0, 1) := by decide +kernel
theorem dX6_go_19 : decode cX6_go 19 = .ok (.getfield 55, 3) := by decide +kernel
theorem dX6_go_22 : decode cX6_go 22 = .ok (.iload_n 2, 1) := by decide +kernel
theorem dX6_go_23 : decode cX6_go 23 = .ok (.aload_n 0, 1) := by decide +kernel
theorem dX6_go_24 : decode cX6_go 24 = .ok (.getfield 19, 3) := by decide +kernel
theorem dX6_go_27 : decode cX6_go 27 = .ok (.getfield 125, 3) := by decide +kernel
theorem dX6_go_30 : decode cX6_go 30 = .ok (.iload_n 1, 1) := by decide +kernel
theorem dX6_go_31 : decode cX6_go 31 = .ok (.invokestatic 106, 3) := by decide +kernel
theorem dX6_go_34 : decode cX6_go 34 = .ok (.invokevirtual 138, 3) := by decide +kernel
theorem dX6_go_37 : decode cX6_go 37 = .ok (.ifCond .ge 6, 3) := by decide +kernel
theorem dX6_go_40 : decode cX6_go 40 = .ok (.bipush (-2), 2) := by decide +kernel
theorem dX6_go_42 : decode cX6_go 42 = .ok (.ireturn, 1) := by decide +kernel
theorem dX6_go_43 : decode cX6_go 43 = .ok (.aload_n 0, 1) := by decide +kernel
theorem dX6_go_44 : decode cX6_go 44 = .ok (.getfield 31, 3) := by decide +kernel
theorem dX6_go_47 : decode cX6_go 47 = .ok (.aload_n 0, 1) := by decide +kernel
theorem dX6_go_48 : decode cX6_go 48 = .ok (.getfield 19, 3) := by decide +kernel
theorem dX6_go_51 : decode cX6_go 51 = .ok (.invokevirtual 141, 3) := by decide +kernel
theorem dX6_go_54 : decode cX6_go 54 = .ok (.aload_n 0, 1) := by decide +kernel
theorem dX6_go_55 : decode cX6_go 55 = .ok (.getfield 19, 3) := by decide +kernel
theorem dX6_go_58 : decode cX6_go 58 = .ok (.aload_n 0, 1) := by decide +kernel
theorem dX6_go_59 : decode cX6_go 59 = .ok (.getfield 55, 3) := by decide +kernel
theorem dX6_go_62 : decode cX6_go 62 = .ok (.iload_n 1, 1) := by decide +kernel
theorem dX6_go_63 : decode cX6_go 63 = .ok (.iload_n 2, 1) := by decide +kernel
theorem dX6_go_64 : decode cX6_go 64 = .ok (.iload_n 3, 1) := by decide +kernel
theorem dX6_go_65 : decode cX6_go 65 = .ok (.invokevirtual 145, 3) := by decide +kernel
theorem dX6_go_68 : decode cX6_go 68 = .ok (.ireturn, 1) := by decide +kernel
set_option maxRecDepth 20000 in
theorem ggX6_oil_X6_isDoor : GoodIn wsX6_oil wsX6_isDoor := goodIn_r _ [8, 3, 49, 50, 51, 52, 53, 54, 55, 56, 57, 64, 65, 66, 67, 68, 69, 70, 71, 72, 73, 74, 75, 76, 77, 78] (by decide +kernel) (by decide +kernel)
set_option maxRecDepth 20000 in
theorem gX6_oil_X6_isDoor : GoodIn wsX6_oil (wsV RX6 98 RX6 yX6_isDoor wsX6_isDoor) := goodIn_app (goodIn_of _ (by decide +kernel)) ggX6_oil_X6_isDoor
set_option maxRecDepth 20000 in
theorem ggX6_oil_X1_push : GoodIn wsX6_oil wsX1_push := goodIn_r _ [13, 14, 15, 16, 17, 18, 12, 19, 20, 21, 22, 23, 24, 25, 26, 27, 28, 29, 30, 31, 32, 33, 34, 7, 35, 79, 80, 58, 59, 60, 61, 62, 63] (by decide +kernel) (by decide +kernel)
set_option maxRecDepth 20000 in
theorem gX6_oil_X1_push : GoodIn wsX6_oil (wsV RX6 141 RX1 yX1_push wsX1_push) := goodIn_app (goodIn_of _ (by decide +kernel)) ggX6_oil_X1_push
set_option maxRecDepth 20000 in
theorem ggX6_oil_X6_put : GoodIn wsX6_oil wsX6_put := goodIn_r _ [38] (by decide +kernel) (by decide +kernel)
set_option maxRecDepth 20000 in
theorem gX6_oil_X6_put : GoodIn wsX6_oil (va_wsS RX6 152 yX6_put wsX6_put) := goodIn_app (goodIn_of _ (by decide +kernel)) ggX6_oil_X6_put
set_option maxRecDepth 20000 in
theorem ggX6_oil_X0_oiledDoors : GoodIn wsX6_oil wsX0_oiledDoors := goodIn_r _ [42, 43, 44, 45, 27, 46, 30, 47, 7, 48, 58, 59, 60, 61, 62, 63] (by decide +kernel) (by decide +kernel)
set_option maxRecDepth 20000 in
theorem gX6_oil_X0_oiledDoors : GoodIn wsX6_oil (wsV RX6 156 RX0 yX0_oiledDoors wsX0_oiledDoors) := goodIn_app (goodIn_of _ (by decide +kernel)) ggX6_oil_X0_oiledDoors
theorem dX6_oil_0 : decode cX6_oil 0 = .ok (.aload_n 0, 1) := by decide +kernel
theorem dX6_oil_1 : decode cX6_oil 1 = .ok (.iload_n 1, 1) := by decide +kernel
theorem dX6_oil_2 : decode cX6_oil 2 = .ok (.invokevirtual 98, 3) := by decide +kernel
theorem dX6_oil_5 : decode cX6_oil 5 = .ok (.ifCond .ne 5, 3) := by decide +kernel
theorem dX6_oil_8 : decode cX6_oil 8 = .ok (.iconst (-1), 1) := by decide +kernel
theorem dX6_oil_9 : decode cX6_oil 9 = .ok (.ireturn, 1) := by decide +kernel
theorem dX6_oil_10 : decode cX6_oil 10 = .ok (.aload_n 0, 1) := by decide +kernel
theorem dX6_oil_11 : decode cX6_oil 11 = .ok (.getfield 31, 3) := by decide +kernel
theorem dX6_oil_14 : decode cX6_oil 14 = .ok (.aload_n 0, 1) := by decide +kernel
theorem dX6_oil_15 : decode cX6_oil 15 = .ok (.getfield 19, 3) := by decide +kernel
theorem dX6_oil_18 : decode cX6_oil 18 = .ok (.invokevirtual 141, 3) := by decide +kernel
theorem dX6_oil_21 : decode cX6_oil 21 = .ok (.aload_n 0, 1) := by decide +kernel
theorem dX6_oil_22 : decode cX6_oil 22 = .ok (.getfield 19, 3) := by decide +kernel
theorem dX6_oil_25 : decode cX6_oil 25 = .ok (.getfield 116, 3) := by decide +kernel
theorem dX6_oil_28 : decode cX6_oil 28 = .ok (.iload_n 1, 1) := by decide +kernel
theorem dX6_oil_29 : decode cX6_oil 29 = .ok (.aload_n 0, 1) := by decide +kernel
theorem dX6_oil_30 : decode cX6_oil 30 = .ok (.getfield 55, 3) := by decide +kernel
theorem dX6_oil_33 : decode cX6_oil 33 = .ok (.getfield 149, 3) := by decide +kernel
theorem dX6_oil_36 : decode cX6_oil 36 = .ok (.invokestatic 152, 3) := by decide +kernel
theorem dX6_oil_39 : decode cX6_oil 39 = .ok (.aload_n 0, 1) := by decide +kernel
theorem dX6_oil_40 : decode cX6_oil 40 = .ok (.getfield 19, 3) := by decide +kernel
theorem dX6_oil_43 : decode cX6_oil 43 = .ok (.invokevirtual 156, 3) := by decide +kernel
theorem dX6_oil_46 : decode cX6_oil 46 = .ok (.ireturn, 1) := by decide +kernel
set_option maxRecDepth 20000 in
theorem ggX6_night_X6_within : GoodIn wsX6_night wsX6_within := goodIn_r _ [7] (by decide +kernel) (by decide +kernel)
set_option maxRecDepth 20000 in
theorem gX6_night_X6_within : GoodIn wsX6_night (va_wsS RX6 73 yX6_within wsX6_within) := goodIn_app (goodIn_of _ (by decide +kernel)) ggX6_night_X6_within
set_option maxRecDepth 20000 in
theorem ggX6_night_X1_push : GoodIn wsX6_night wsX1_push := goodIn_r _ [12, 13, 14, 15, 16, 17, 11, 18, 19, 20, 21, 22, 23, 24, 25, 26, 27, 28, 29, 30, 31, 32, 33, 6, 34, 93, 94, 87, 88, 89, 90, 91, 92] (by decide +kernel) (by decide +kernel)
set_option maxRecDepth 20000 in
theorem gX6_night_X1_push : GoodIn wsX6_night (wsV RX6 141 RX1 yX1_push wsX1_push) := goodIn_app (goodIn_of _ (by decide +kernel)) ggX6_night_X1_push
set_option maxRecDepth 20000 in
theorem ggX6_night_X0_sleep : GoodIn wsX6_night wsX0_sleep := goodIn_r _ [38, 32, 39, 40, 41, 26, 42, 43, 44, 6, 45, 46, 47, 48, 49, 50, 51, 29, 52, 53, 54, 55, 28, 56, 57, 58, 59, 60, 61, 62, 63, 64, 65, 66, 67, 68, 69, 70, 71, 72, 73, 74, 75, 76, 77, 95, 96, 97, 98, 99, 100, 101, 102, 103, 104, 105, 106, 107, 108, 109, 87, 88, 89, 90, 91, 92] (by decide +kernel) (by decide +kernel)
set_option maxRecDepth 20000 in
theorem gX6_night_X0_sleep : GoodIn wsX6_night (wsV RX6 163 RX0 yX0_sleep wsX0_sleep) := goodIn_app (goodIn_of _ (by decide +kernel)) ggX6_night_X0_sleep
theorem dX6_night_0 : decode cX6_night 0 = .ok (.iload_n 1, 1) := by decide +kernel
theorem dX6_night_1 : decode cX6_night 1 = .ok (.iconst 1, 1) := by decide +kernel
theorem dX6_night_2 : decode cX6_night 2 = .ok (.bipush 60, 2) := by decide +kernel
theorem dX6_night_4 : decode cX6_night 4 = .ok (.invokestatic 73, 3) := by decide +kernel
theorem dX6_night_7 : decode cX6_night 7 = .ok (.ifCond .ne 5, 3) := by decide +kernel
theorem dX6_night_10 : decode cX6_night 10 = .ok (.iconst (-1), 1) := by decide +kernel
theorem dX6_night_11 : decode cX6_night 11 = .ok (.ireturn, 1) := by decide +kernel
theorem dX6_night_12 : decode cX6_night 12 = .ok (.aload_n 0, 1) := by decide +kernel
theorem dX6_night_13 : decode cX6_night 13 = .ok (.getfield 19, 3) := by decide +kernel
theorem dX6_night_16 : decode cX6_night 16 = .ok (.getfield 160, 3) := by decide +kernel
theorem dX6_night_19 : decode cX6_night 19 = .ok (.iload_n 1, 1) := by decide +kernel
theorem dX6_night_20 : decode cX6_night 20 = .ok (.iadd, 1) := by decide +kernel
theorem dX6_night_21 : decode cX6_night 21 = .ok (.sipush 9999, 3) := by decide +kernel
theorem dX6_night_24 : decode cX6_night 24 = .ok (.if_icmp .le 6, 3) := by decide +kernel
theorem dX6_night_27 : decode cX6_night 27 = .ok (.bipush (-2), 2) := by decide +kernel
theorem dX6_night_29 : decode cX6_night 29 = .ok (.ireturn, 1) := by decide +kernel
theorem dX6_night_30 : decode cX6_night 30 = .ok (.aload_n 0, 1) := by decide +kernel
theorem dX6_night_31 : decode cX6_night 31 = .ok (.getfield 31, 3) := by decide +kernel
theorem dX6_night_34 : decode cX6_night 34 = .ok (.aload_n 0, 1) := by decide +kernel
theorem dX6_night_35 : decode cX6_night 35 = .ok (.getfield 19, 3) := by decide +kernel
theorem dX6_night_38 : decode cX6_night 38 = .ok (.invokevirtual 141, 3) := by decide +kernel
theorem dX6_night_41 : decode cX6_night 41 = .ok (.iconst 0, 1) := by decide +kernel
theorem dX6_night_42 : decode cX6_night 42 = .ok (.istore_n 2, 1) := by decide +kernel
theorem dX6_night_43 : decode cX6_night 43 = .ok (.iload_n 2, 1) := by decide +kernel
theorem dX6_night_44 : decode cX6_night 44 = .ok (.iload_n 1, 1) := by decide +kernel
theorem dX6_night_45 : decode cX6_night 45 = .ok (.if_icmp .ge 20, 3) := by decide +kernel
theorem dX6_night_48 : decode cX6_night 48 = .ok (.aload_n 0, 1) := by decide +kernel
theorem dX6_night_49 : decode cX6_night 49 = .ok (.getfield 19, 3) := by decide +kernel
theorem dX6_night_52 : decode cX6_night 52 = .ok (.aload_n 0, 1) := by decide +kernel
theorem dX6_night_53 : decode cX6_night 53 = .ok (.getfield 55, 3) := by decide +kernel
theorem dX6_night_56 : decode cX6_night 56 = .ok (.invokevirtual 163, 3) := by decide +kernel
theorem dX6_night_59 : decode cX6_night 59 = .ok (.iinc 2 1, 3) := by decide +kernel
theorem dX6_night_62 : decode cX6_night 62 = .ok (.goto (-19), 3) := by decide +kernel
theorem dX6_night_65 : decode cX6_night 65 = .ok (.aload_n 0, 1) := by decide +kernel
theorem dX6_night_66 : decode cX6_night 66 = .ok (.getfield 19, 3) := by decide +kernel
theorem dX6_night_69 : decode cX6_night 69 = .ok (.getfield 160, 3) := by decide +kernel
theorem dX6_night_72 : decode cX6_night 72 = .ok (.ireturn, 1) := by decide +kernel
set_option maxRecDepth 20000 in
theorem ggX6_undo_X1_pop : GoodIn wsX6_undo wsX1_pop := goodIn_r _ [7, 8, 9, 10, 11, 6, 12, 13, 14, 15, 16, 17, 18, 19, 20, 21, 22, 23, 24, 25, 26, 36, 37, 38, 39, 40, 41, 42, 43] (by decide +kernel) (by decide +kernel)
set_option maxRecDepth 20000 in
theorem gX6_undo_X1_pop : GoodIn wsX6_undo (wsV RX6 166 RX1 yX1_pop wsX1_pop) := goodIn_app (goodIn_of _ (by decide +kernel)) ggX6_undo_X1_pop
theorem dX6_undo_0 : decode cX6_undo 0 = .ok (.aload_n 0, 1) := by decide +kernel
theorem dX6_undo_1 : decode cX6_undo 1 = .ok (.getfield 31, 3) := by decide +kernel
theorem dX6_undo_4 : decode cX6_undo 4 = .ok (.aload_n 0, 1) := by decide +kernel
theorem dX6_undo_5 : decode cX6_undo 5 = .ok (.getfield 19, 3) := by decide +kernel
theorem dX6_undo_8 : decode cX6_undo 8 = .ok (.invokevirtual 166, 3) := by decide +kernel
theorem dX6_undo_11 : decode cX6_undo 11 = .ok (.ifCond .eq 13, 3) := by decide +kernel
theorem dX6_undo_14 : decode cX6_undo 14 = .ok (.aload_n 0, 1) := by decide +kernel
theorem dX6_undo_15 : decode cX6_undo 15 = .ok (.getfield 31, 3) := by decide +kernel
theorem dX6_undo_18 : decode cX6_undo 18 = .ok (.getfield 170, 3) := by decide +kernel
theorem dX6_undo_21 : decode cX6_undo 21 = .ok (.goto 5, 3) := by decide +kernel
theorem dX6_undo_24 : decode cX6_undo 24 = .ok (.bipush (-2), 2) := by decide +kernel
theorem dX6_undo_26 : decode cX6_undo 26 = .ok (.ireturn, 1) := by decide +kernel
set_option maxRecDepth 20000 in
theorem ggX6_way_X6_isLodger : GoodIn wsX6_way wsX6_isLodger := goodIn_r _ [8, 2, 52, 53, 54, 55, 56, 57, 58, 59, 60, 61, 62, 63, 64, 65, 66, 67, 68, 69, 70, 71, 72, 73, 74, 75] (by decide +kernel) (by decide +kernel)
set_option maxRecDepth 20000 in
theorem gX6_way_X6_isLodger : GoodIn wsX6_way (wsV RX6 122 RX6 yX6_isLodger wsX6_isLodger) := goodIn_app (goodIn_of _ (by decide +kernel)) ggX6_way_X6_isLodger
set_option maxRecDepth 20000 in
theorem ggX6_way_X6_isRoom : GoodIn wsX6_way wsX6_isRoom := goodIn_r _ [12, 2, 52, 53, 54, 55, 56, 57, 58, 59, 60, 61, 62, 63, 64, 65, 66, 67, 68, 69, 70, 71, 72, 73, 74, 75] (by decide +kernel) (by decide +kernel)
set_option maxRecDepth 20000 in
theorem gX6_way_X6_isRoom : GoodIn wsX6_way (wsV RX6 173 RX6 yX6_isRoom wsX6_isRoom) := goodIn_app (goodIn_of _ (by decide +kernel)) ggX6_way_X6_isRoom
set_option maxRecDepth 20000 in
theorem ggX6_way_X5_measure : GoodIn wsX6_way wsX5_measure := goodIn_r _ [17, 18, 19, 20, 21, 7, 22, 23, 24, 25, 26, 27, 28, 29, 30, 31, 32, 33, 34, 35, 36, 37, 38, 39, 40, 41, 42, 43, 44, 45, 46, 16, 47, 61, 62, 63, 64, 65, 66, 67, 68, 69, 70, 71, 72, 73, 74, 75, 76, 77, 78, 79, 80, 81, 82, 83] (by decide +kernel) (by decide +kernel)
set_option maxRecDepth 20000 in
theorem gX6_way_X5_measure : GoodIn wsX6_way (wsV RX6 176 RX5 yX5_measure wsX5_measure) := goodIn_app (goodIn_of _ (by decide +kernel)) ggX6_way_X5_measure
set_option maxRecDepth 20000 in
theorem ggX6_way_X5_minutesFrom : GoodIn wsX6_way wsX5_minutesFrom := goodIn_r _ [51, 19, 20, 33, 7, 34, 76, 77] (by decide +kernel) (by decide +kernel)
set_option maxRecDepth 20000 in
theorem gX6_way_X5_minutesFrom : GoodIn wsX6_way (wsV RX6 180 RX5 yX5_minutesFrom wsX5_minutesFrom) := goodIn_app (goodIn_of _ (by decide +kernel)) ggX6_way_X5_minutesFrom
theorem dX6_way_0 : decode cX6_way 0 = .ok (.aload_n 0, 1) := by decide +kernel
theorem dX6_way_1 : decode cX6_way 1 = .ok (.iload_n 1, 1) := by decide +kernel
theorem dX6_way_2 : decode cX6_way 2 = .ok (.invokevirtual 122, 3) := by decide +kernel
theorem dX6_way_5 : decode cX6_way 5 = .ok (.ifCond .eq 19, 3) := by decide +kernel
theorem dX6_way_8 : decode cX6_way 8 = .ok (.aload_n 0, 1) := by decide +kernel
theorem dX6_way_9 : decode cX6_way 9 = .ok (.iload_n 2, 1) := by decide +kernel
theorem dX6_way_10 : decode cX6_way 10 = .ok (.invokevirtual 173, 3) := by decide +kernel
theorem dX6_way_13 : decode cX6_way 13 = .ok (.ifCond .eq 11, 3) := by decide +kernel
theorem dX6_way_16 : decode cX6_way 16 = .ok (.aload_n 0, 1) := by decide +kernel
theorem dX6_way_17 : decode cX6_way 17 = .ok (.iload_n 3, 1) := by decide +kernel
theorem dX6_way_18 : decode cX6_way 18 = .ok (.invokevirtual 173, 3) := by decide +kernel
theorem dX6_way_21 : decode cX6_way 21 = .ok (.ifCond .ne 5, 3) := by decide +kernel
theorem dX6_way_24 : decode cX6_way 24 = .ok (.iconst (-1), 1) := by decide +kernel
theorem dX6_way_25 : decode cX6_way 25 = .ok (.ireturn, 1) := by decide +kernel
theorem dX6_way_26 : decode cX6_way 26 = .ok (.aload_n 0, 1) := by decide +kernel
theorem dX6_way_27 : decode cX6_way 27 = .ok (.getfield 41, 3) := by decide +kernel
theorem dX6_way_30 : decode cX6_way 30 = .ok (.aload_n 0, 1) := by decide +kernel
theorem dX6_way_31 : decode cX6_way 31 = .ok (.getfield 55, 3) := by decide +kernel
theorem dX6_way_34 : decode cX6_way 34 = .ok (.aload_n 0, 1) := by decide +kernel
theorem dX6_way_35 : decode cX6_way 35 = .ok (.getfield 19, 3) := by decide +kernel
theorem dX6_way_38 : decode cX6_way 38 = .ok (.iload_n 1, 1) := by decide +kernel
theorem dX6_way_39 : decode cX6_way 39 = .ok (.iload_n 3, 1) := by decide +kernel
theorem dX6_way_40 : decode cX6_way 40 = .ok (.iconst 0, 1) := by decide +kernel
theorem dX6_way_41 : decode cX6_way 41 = .ok (.invokevirtual 176, 3) := by decide +kernel
theorem dX6_way_44 : decode cX6_way 44 = .ok (.aload_n 0, 1) := by decide +kernel
theorem dX6_way_45 : decode cX6_way 45 = .ok (.getfield 41, 3) := by decide +kernel
theorem dX6_way_48 : decode cX6_way 48 = .ok (.iload_n 2, 1) := by decide +kernel
theorem dX6_way_49 : decode cX6_way 49 = .ok (.invokevirtual 180, 3) := by decide +kernel
theorem dX6_way_52 : decode cX6_way 52 = .ok (.ireturn, 1) := by decide +kernel
set_option maxRecDepth 20000 in
theorem ggX6_first_X6_isLodger : GoodIn wsX6_first wsX6_isLodger := goodIn_r _ [8, 2, 63, 64, 65, 66, 67, 68, 69, 70, 71, 72, 73, 74, 75, 76, 77, 78, 79, 80, 81, 82, 83, 84, 85, 86] (by decide +kernel) (by decide +kernel)
set_option maxRecDepth 20000 in
theorem gX6_first_X6_isLodger : GoodIn wsX6_first (wsV RX6 122 RX6 yX6_isLodger wsX6_isLodger) := goodIn_app (goodIn_of _ (by decide +kernel)) ggX6_first_X6_isLodger
set_option maxRecDepth 20000 in
theorem ggX6_first_X6_isRoom : GoodIn wsX6_first wsX6_isRoom := goodIn_r _ [12, 2, 63, 64, 65, 66, 67, 68, 69, 70, 71, 72, 73, 74, 75, 76, 77, 78, 79, 80, 81, 82, 83, 84, 85, 86] (by decide +kernel) (by decide +kernel)
set_option maxRecDepth 20000 in
theorem gX6_first_X6_isRoom : GoodIn wsX6_first (wsV RX6 173 RX6 yX6_isRoom wsX6_isRoom) := goodIn_app (goodIn_of _ (by decide +kernel)) ggX6_first_X6_isRoom
set_option maxRecDepth 20000 in
theorem ggX6_first_X5_measure : GoodIn wsX6_first wsX5_measure := goodIn_r _ [17, 18, 19, 20, 21, 7, 22, 23, 24, 25, 26, 27, 28, 29, 30, 31, 32, 33, 34, 35, 36, 37, 38, 39, 40, 41, 42, 43, 44, 45, 46, 16, 47, 72, 73, 74, 75, 76, 77, 78, 79, 80, 81, 82, 83, 84, 85, 86, 87, 88, 89, 90, 91, 92, 93, 94] (by decide +kernel) (by decide +kernel)
set_option maxRecDepth 20000 in
theorem gX6_first_X5_measure : GoodIn wsX6_first (wsV RX6 176 RX5 yX5_measure wsX5_measure) := goodIn_app (goodIn_of _ (by decide +kernel)) ggX6_first_X5_measure
set_option maxRecDepth 20000 in
theorem ggX6_first_X5_lowestDoorFrom : GoodIn wsX6_first wsX5_lowestDoorFrom := goodIn_r _ [51, 18, 19, 52, 53, 54, 16, 55, 20, 33, 7, 34, 56, 57, 58, 59, 60, 61, 62, 72, 73, 74, 75, 76, 77, 78, 79, 80, 81, 82, 83, 84, 85, 86, 87, 88] (by decide +kernel) (by decide +kernel)
set_option maxRecDepth 20000 in
theorem gX6_first_X5_lowestDoorFrom : GoodIn wsX6_first (wsV RX6 184 RX5 yX5_lowestDoorFrom wsX5_lowestDoorFrom) := goodIn_app (goodIn_of _ (by decide +kernel)) ggX6_first_X5_lowestDoorFrom
theorem dX6_first_0 : decode cX6_first 0 = .ok (.aload_n 0, 1) := by decide +kernel
theorem dX6_first_1 : decode cX6_first 1 = .ok (.iload_n 1, 1) := by decide +kernel
theorem dX6_first_2 : decode cX6_first 2 = .ok (.invokevirtual 122, 3) := by decide +kernel
theorem dX6_first_5 : decode cX6_first 5 = .ok (.ifCond .eq 19, 3) := by decide +kernel
theorem dX6_first_8 : decode cX6_first 8 = .ok (.aload_n 0, 1) := by decide +kernel
theorem dX6_first_9 : decode cX6_first 9 = .ok (.iload_n 2, 1) := by decide +kernel
theorem dX6_first_10 : decode cX6_first 10 = .ok (.invokevirtual 173, 3) := by decide +kernel
theorem dX6_first_13 : decode cX6_first 13 = .ok (.ifCond .eq 11, 3) := by decide +kernel
theorem dX6_first_16 : decode cX6_first 16 = .ok (.aload_n 0, 1) := by decide +kernel
theorem dX6_first_17 : decode cX6_first 17 = .ok (.iload_n 3, 1) := by decide +kernel
theorem dX6_first_18 : decode cX6_first 18 = .ok (.invokevirtual 173, 3) := by decide +kernel
theorem dX6_first_21 : decode cX6_first 21 = .ok (.ifCond .ne 5, 3) := by decide +kernel
theorem dX6_first_24 : decode cX6_first 24 = .ok (.iconst (-1), 1) := by decide +kernel
theorem dX6_first_25 : decode cX6_first 25 = .ok (.ireturn, 1) := by decide +kernel
theorem dX6_first_26 : decode cX6_first 26 = .ok (.aload_n 0, 1) := by decide +kernel
theorem dX6_first_27 : decode cX6_first 27 = .ok (.getfield 41, 3) := by decide +kernel
theorem dX6_first_30 : decode cX6_first 30 = .ok (.aload_n 0, 1) := by decide +kernel
theorem dX6_first_31 : decode cX6_first 31 = .ok (.getfield 55, 3) := by decide +kernel
theorem dX6_first_34 : decode cX6_first 34 = .ok (.aload_n 0, 1) := by decide +kernel
theorem dX6_first_35 : decode cX6_first 35 = .ok (.getfield 19, 3) := by decide +kernel
theorem dX6_first_38 : decode cX6_first 38 = .ok (.iload_n 1, 1) := by decide +kernel
theorem dX6_first_39 : decode cX6_first 39 = .ok (.iload_n 3, 1) := by decide +kernel
theorem dX6_first_40 : decode cX6_first 40 = .ok (.iconst 0, 1) := by decide +kernel
theorem dX6_first_41 : decode cX6_first 41 = .ok (.invokevirtual 176, 3) := by decide +kernel
theorem dX6_first_44 : decode cX6_first 44 = .ok (.aload_n 0, 1) := by decide +kernel
theorem dX6_first_45 : decode cX6_first 45 = .ok (.getfield 41, 3) := by decide +kernel
theorem dX6_first_48 : decode cX6_first 48 = .ok (.aload_n 0, 1) := by decide +kernel
theorem dX6_first_49 : decode cX6_first 49 = .ok (.getfield 55, 3) := by decide +kernel
theorem dX6_first_52 : decode cX6_first 52 = .ok (.iload_n 2, 1) := by decide +kernel
theorem dX6_first_53 : decode cX6_first 53 = .ok (.invokevirtual 184, 3) := by decide +kernel
theorem dX6_first_56 : decode cX6_first 56 = .ok (.ireturn, 1) := by decide +kernel
set_option maxRecDepth 20000 in
theorem ggX6_inTime_X6_isLodger : GoodIn wsX6_inTime wsX6_isLodger := goodIn_r _ [6, 1, 63, 64, 65, 66, 67, 68, 69, 70, 71, 72, 73, 74, 75, 76, 77, 78, 79, 80, 81, 82, 83, 84, 85, 86] (by decide +kernel) (by decide +kernel)
set_option maxRecDepth 20000 in
theorem gX6_inTime_X6_isLodger : GoodIn wsX6_inTime (wsV RX6 122 RX6 yX6_isLodger wsX6_isLodger) := goodIn_app (goodIn_of _ (by decide +kernel)) ggX6_inTime_X6_isLodger
set_option maxRecDepth 20000 in
theorem ggX6_inTime_X6_within : GoodIn wsX6_inTime wsX6_within := goodIn_r _ [9] (by decide +kernel) (by decide +kernel)
set_option maxRecDepth 20000 in
theorem gX6_inTime_X6_within : GoodIn wsX6_inTime (va_wsS RX6 73 yX6_within wsX6_within) := goodIn_app (goodIn_of _ (by decide +kernel)) ggX6_inTime_X6_within
set_option maxRecDepth 20000 in
theorem ggX6_inTime_J6_bitCount_0f7a4 : GoodIn wsX6_inTime wsJ6_bitCount_0f7a4 := goodIn_r _ [13, 14, 15, 16] (by decide +kernel) (by decide +kernel)
set_option maxRecDepth 20000 in
theorem gX6_inTime_J6_bitCount_0f7a4 : GoodIn wsX6_inTime (va_wsS RX6 188 yJ6_bitCount_0f7a4 wsJ6_bitCount_0f7a4) := goodIn_app (goodIn_of _ (by decide +kernel)) ggX6_inTime_J6_bitCount_0f7a4
set_option maxRecDepth 20000 in
theorem ggX6_inTime_X6_isInTimeWith : GoodIn wsX6_inTime wsX6_isInTimeWith := goodIn_r _ [20, 21, 1, 22, 23, 24, 5, 25, 26, 27, 28, 29, 30, 31, 32, 33, 34, 35, 36, 37, 38, 39, 40, 41, 42, 43, 44, 45, 46, 47, 48, 49, 50, 51, 52, 53, 54, 55, 56, 57, 58, 59, 60, 61, 62, 63, 64, 65, 66, 67, 68, 69, 70, 71, 72, 73, 74, 75, 76, 77, 78, 79, 80, 81, 82, 83, 84, 85, 86, 87, 88, 89, 90, 91, 92, 93, 94] (by decide +kernel) (by decide +kernel)
set_option maxRecDepth 20000 in
theorem gX6_inTime_X6_isInTimeWith : GoodIn wsX6_inTime (wsV RX6 193 RX6 yX6_isInTimeWith wsX6_isInTimeWith) := goodIn_app (goodIn_of _ (by decide +kernel)) ggX6_inTime_X6_isInTimeWith
theorem dX6_inTime_0 : decode cX6_inTime 0 = .ok (.aload_n 0, 1) := by decide +kernel
theorem dX6_inTime_1 : decode cX6_inTime 1 = .ok (.iload_n 1, 1) := by decide +kernel
theorem dX6_inTime_2 : decode cX6_inTime 2 = .ok (.invokevirtual 122, 3) := by decide +kernel
theorem dX6_inTime_5 : decode cX6_inTime 5 = .ok (.ifCond .eq 14, 3) := by decide +kernel
theorem dX6_inTime_8 : decode cX6_inTime 8 = .ok (.iload_n 2, 1) := by decide +kernel
theorem dX6_inTime_9 : decode cX6_inTime 9 = .ok (.iconst 0, 1) := by decide +kernel
theorem dX6_inTime_10 : decode cX6_inTime 10 = .ok (.sipush 600, 3) := by decide +kernel
theorem dX6_inTime_13 : decode cX6_inTime 13 = .ok (.invokestatic 73, 3) := by decide +kernel
theorem dX6_inTime_16 : decode cX6_inTime 16 = .ok (.ifCond .ne 5, 3) := by decide +kernel
theorem dX6_inTime_19 : decode cX6_inTime 19 = .ok (.iconst (-1), 1) := by decide +kernel
theorem dX6_inTime_20 : decode cX6_inTime 20 = .ok (.ireturn, 1) := by decide +kernel
theorem dX6_inTime_21 : decode cX6_inTime 21 = .ok (.iconst 1, 1) := by decide +kernel
theorem dX6_inTime_22 : decode cX6_inTime 22 = .ok (.aload_n 0, 1) := by decide +kernel
theorem dX6_inTime_23 : decode cX6_inTime 23 = .ok (.getfield 55, 3) := by decide +kernel
theorem dX6_inTime_26 : decode cX6_inTime 26 = .ok (.getfield 95, 3) := by decide +kernel
theorem dX6_inTime_29 : decode cX6_inTime 29 = .ok (.ishl, 1) := by decide +kernel
theorem dX6_inTime_30 : decode cX6_inTime 30 = .ok (.istore_n 3, 1) := by decide +kernel
theorem dX6_inTime_31 : decode cX6_inTime 31 = .ok (.iconst 0, 1) := by decide +kernel
theorem dX6_inTime_32 : decode cX6_inTime 32 = .ok (.istore 4, 2) := by decide +kernel
theorem dX6_inTime_34 : decode cX6_inTime 34 = .ok (.iload 4, 2) := by decide +kernel
theorem dX6_inTime_36 : decode cX6_inTime 36 = .ok (.aload_n 0, 1) := by decide +kernel
theorem dX6_inTime_37 : decode cX6_inTime 37 = .ok (.getfield 55, 3) := by decide +kernel
theorem dX6_inTime_40 : decode cX6_inTime 40 = .ok (.getfield 95, 3) := by decide +kernel
theorem dX6_inTime_43 : decode cX6_inTime 43 = .ok (.if_icmp .gt 48, 3) := by decide +kernel
theorem dX6_inTime_46 : decode cX6_inTime 46 = .ok (.iconst 0, 1) := by decide +kernel
theorem dX6_inTime_47 : decode cX6_inTime 47 = .ok (.istore 5, 2) := by decide +kernel
theorem dX6_inTime_49 : decode cX6_inTime 49 = .ok (.iload 5, 2) := by decide +kernel
theorem dX6_inTime_51 : decode cX6_inTime 51 = .ok (.iload_n 3, 1) := by decide +kernel
theorem dX6_inTime_52 : decode cX6_inTime 52 = .ok (.if_icmp .ge 33, 3) := by decide +kernel
theorem dX6_inTime_55 : decode cX6_inTime 55 = .ok (.iload 5, 2) := by decide +kernel
theorem dX6_inTime_57 : decode cX6_inTime 57 = .ok (.invokestatic 188, 3) := by decide +kernel
theorem dX6_inTime_60 : decode cX6_inTime 60 = .ok (.iload 4, 2) := by decide +kernel
theorem dX6_inTime_62 : decode cX6_inTime 62 = .ok (.if_icmp .ne 17, 3) := by decide +kernel
theorem dX6_inTime_65 : decode cX6_inTime 65 = .ok (.aload_n 0, 1) := by decide +kernel
theorem dX6_inTime_66 : decode cX6_inTime 66 = .ok (.iload 5, 2) := by decide +kernel
theorem dX6_inTime_68 : decode cX6_inTime 68 = .ok (.iload_n 1, 1) := by decide +kernel
theorem dX6_inTime_69 : decode cX6_inTime 69 = .ok (.iload_n 2, 1) := by decide +kernel
theorem dX6_inTime_70 : decode cX6_inTime 70 = .ok (.invokevirtual 193, 3) := by decide +kernel
theorem dX6_inTime_73 : decode cX6_inTime 73 = .ok (.ifCond .eq 6, 3) := by decide +kernel
theorem dX6_inTime_76 : decode cX6_inTime 76 = .ok (.iload 5, 2) := by decide +kernel
theorem dX6_inTime_78 : decode cX6_inTime 78 = .ok (.ireturn, 1) := by decide +kernel
theorem dX6_inTime_79 : decode cX6_inTime 79 = .ok (.iinc 5 1, 3) := by decide +kernel
theorem dX6_inTime_82 : decode cX6_inTime 82 = .ok (.goto (-33), 3) := by decide +kernel
theorem dX6_inTime_85 : decode cX6_inTime 85 = .ok (.iinc 4 1, 3) := by decide +kernel
theorem dX6_inTime_88 : decode cX6_inTime 88 = .ok (.goto (-54), 3) := by decide +kernel
theorem dX6_inTime_91 : decode cX6_inTime 91 = .ok (.bipush (-4), 2) := by decide +kernel
theorem dX6_inTime_93 : decode cX6_inTime 93 = .ok (.ireturn, 1) := by decide +kernel
set_option maxRecDepth 20000 in
theorem ggX6_rooms_X6_isLodger : GoodIn wsX6_rooms wsX6_isLodger := goodIn_r _ [9, 2, 71, 72, 73, 74, 75, 76, 77, 78, 79, 80, 81, 82, 83, 84, 85, 86, 87, 88, 89, 90, 91, 92, 93, 94] (by decide +kernel) (by decide +kernel)
set_option maxRecDepth 20000 in
theorem gX6_rooms_X6_isLodger : GoodIn wsX6_rooms (wsV RX6 122 RX6 yX6_isLodger wsX6_isLodger) := goodIn_app (goodIn_of _ (by decide +kernel)) ggX6_rooms_X6_isLodger
set_option maxRecDepth 20000 in
theorem ggX6_rooms_X3_measure : GoodIn wsX6_rooms wsX3_measure := goodIn_r _ [14, 15, 16, 17, 18, 8, 19, 20, 21, 22, 23, 24, 25, 26, 27, 28, 29, 30, 31, 32, 33, 34, 35, 36, 37, 38, 39, 40, 41, 42, 43, 44, 45, 46, 47, 48, 49, 50, 51, 52, 53, 54, 55, 56, 80, 81, 82, 83, 84, 85, 86, 87, 88, 89, 90, 91, 92, 93, 94, 95, 96, 97, 98, 99, 100, 101, 102, 103, 104, 105] (by decide +kernel) (by decide +kernel)
set_option maxRecDepth 20000 in
theorem gX6_rooms_X3_measure : GoodIn wsX6_rooms (wsV RX6 196 RX3 yX3_measure wsX3_measure) := goodIn_app (goodIn_of _ (by decide +kernel)) ggX6_rooms_X3_measure
set_option maxRecDepth 20000 in
theorem ggX6_rooms_X3_bestCode : GoodIn wsX6_rooms wsX3_bestCode := goodIn_r _ [60, 15, 61, 62, 63, 64, 13, 65, 17, 16, 18, 8, 19, 28, 29, 95, 96, 97] (by decide +kernel) (by decide +kernel)
set_option maxRecDepth 20000 in
theorem gX6_rooms_X3_bestCode : GoodIn wsX6_rooms (wsV RX6 199 RX3 yX3_bestCode wsX3_bestCode) := goodIn_app (goodIn_of _ (by decide +kernel)) ggX6_rooms_X3_bestCode
set_option maxRecDepth 20000 in
theorem ggX6_rooms_X3_sumOf : GoodIn wsX6_rooms wsX3_sumOf := goodIn_r _ [65, 15, 17, 16, 18, 8, 19, 28, 29, 95, 96, 97] (by decide +kernel) (by decide +kernel)
set_option maxRecDepth 20000 in
theorem gX6_rooms_X3_sumOf : GoodIn wsX6_rooms (wsV RX6 202 RX3 yX3_sumOf wsX3_sumOf) := goodIn_app (goodIn_of _ (by decide +kernel)) ggX6_rooms_X3_sumOf
set_option maxRecDepth 20000 in
theorem ggX6_rooms_X3_roomIn : GoodIn wsX6_rooms wsX3_roomIn := goodIn_r _ [70, 15, 95, 96, 97] (by decide +kernel) (by decide +kernel)
set_option maxRecDepth 20000 in
theorem gX6_rooms_X3_roomIn : GoodIn wsX6_rooms (wsV RX6 205 RX3 yX3_roomIn wsX3_roomIn) := goodIn_app (goodIn_of _ (by decide +kernel)) ggX6_rooms_X3_roomIn
theorem dX6_rooms_0 : decode cX6_rooms 0 = .ok (.iload_n 1, 1) := by decide +kernel
theorem dX6_rooms_1 : decode cX6_rooms 1 = .ok (.iconst (-1), 1) := by decide +kernel
theorem dX6_rooms_2 : decode cX6_rooms 2 = .ok (.if_icmp .eq 13, 3) := by decide +kernel
theorem dX6_rooms_5 : decode cX6_rooms 5 = .ok (.aload_n 0, 1) := by decide +kernel
theorem dX6_rooms_6 : decode cX6_rooms 6 = .ok (.iload_n 1, 1) := by decide +kernel
theorem dX6_rooms_7 : decode cX6_rooms 7 = .ok (.invokevirtual 122, 3) := by decide +kernel
theorem dX6_rooms_10 : decode cX6_rooms 10 = .ok (.ifCond .ne 5, 3) := by decide +kernel
theorem dX6_rooms_13 : decode cX6_rooms 13 = .ok (.iconst (-1), 1) := by decide +kernel
theorem dX6_rooms_14 : decode cX6_rooms 14 = .ok (.ireturn, 1) := by decide +kernel
theorem dX6_rooms_15 : decode cX6_rooms 15 = .ok (.aload_n 0, 1) := by decide +kernel
theorem dX6_rooms_16 : decode cX6_rooms 16 = .ok (.getfield 48, 3) := by decide +kernel
theorem dX6_rooms_19 : decode cX6_rooms 19 = .ok (.aload_n 0, 1) := by decide +kernel
theorem dX6_rooms_20 : decode cX6_rooms 20 = .ok (.getfield 55, 3) := by decide +kernel
theorem dX6_rooms_23 : decode cX6_rooms 23 = .ok (.aload_n 0, 1) := by decide +kernel
theorem dX6_rooms_24 : decode cX6_rooms 24 = .ok (.getfield 19, 3) := by decide +kernel
theorem dX6_rooms_27 : decode cX6_rooms 27 = .ok (.aload_n 0, 1) := by decide +kernel
theorem dX6_rooms_28 : decode cX6_rooms 28 = .ok (.getfield 41, 3) := by decide +kernel
theorem dX6_rooms_31 : decode cX6_rooms 31 = .ok (.invokevirtual 196, 3) := by decide +kernel
theorem dX6_rooms_34 : decode cX6_rooms 34 = .ok (.aload_n 0, 1) := by decide +kernel
theorem dX6_rooms_35 : decode cX6_rooms 35 = .ok (.getfield 48, 3) := by decide +kernel
theorem dX6_rooms_38 : decode cX6_rooms 38 = .ok (.invokevirtual 199, 3) := by decide +kernel
theorem dX6_rooms_41 : decode cX6_rooms 41 = .ok (.istore_n 2, 1) := by decide +kernel
theorem dX6_rooms_42 : decode cX6_rooms 42 = .ok (.iload_n 2, 1) := by decide +kernel
theorem dX6_rooms_43 : decode cX6_rooms 43 = .ok (.ifCond .ge 6, 3) := by decide +kernel
theorem dX6_rooms_46 : decode cX6_rooms 46 = .ok (.bipush (-4), 2) := by decide +kernel
theorem dX6_rooms_48 : decode cX6_rooms 48 = .ok (.ireturn, 1) := by decide +kernel
theorem dX6_rooms_49 : decode cX6_rooms 49 = .ok (.iload_n 1, 1) := by decide +kernel
theorem dX6_rooms_50 : decode cX6_rooms 50 = .ok (.ifCond .ge 14, 3) := by decide +kernel
theorem dX6_rooms_53 : decode cX6_rooms 53 = .ok (.aload_n 0, 1) := by decide +kernel
theorem dX6_rooms_54 : decode cX6_rooms 54 = .ok (.getfield 48, 3) := by decide +kernel
theorem dX6_rooms_57 : decode cX6_rooms 57 = .ok (.iload_n 2, 1) := by decide +kernel
theorem dX6_rooms_58 : decode cX6_rooms 58 = .ok (.invokevirtual 202, 3) := by decide +kernel
theorem dX6_rooms_61 : decode cX6_rooms 61 = .ok (.goto 12, 3) := by decide +kernel
theorem dX6_rooms_64 : decode cX6_rooms 64 = .ok (.aload_n 0, 1) := by decide +kernel
theorem dX6_rooms_65 : decode cX6_rooms 65 = .ok (.getfield 48, 3) := by decide +kernel
theorem dX6_rooms_68 : decode cX6_rooms 68 = .ok (.iload_n 2, 1) := by decide +kernel
theorem dX6_rooms_69 : decode cX6_rooms 69 = .ok (.iload_n 1, 1) := by decide +kernel
theorem dX6_rooms_70 : decode cX6_rooms 70 = .ok (.invokevirtual 205, 3) := by decide +kernel
theorem dX6_rooms_73 : decode cX6_rooms 73 = .ok (.ireturn, 1) := by decide +kernel
set_option maxRecDepth 20000 in
theorem ggX6_behind_X6_within : GoodIn wsX6_behind wsX6_within := goodIn_r _ [7] (by decide +kernel) (by decide +kernel)
set_option maxRecDepth 20000 in
theorem gX6_behind_X6_within : GoodIn wsX6_behind (va_wsS RX6 73 yX6_within wsX6_within) := goodIn_app (goodIn_of _ (by decide +kernel)) ggX6_behind_X6_within
set_option maxRecDepth 20000 in
theorem ggX6_behind_X6_isDoor : GoodIn wsX6_behind wsX6_isDoor := goodIn_r _ [11, 3, 72, 73, 74, 75, 76, 77, 78, 79, 80, 81, 82, 83, 84, 85, 86, 87, 88, 89, 90, 91, 92, 93, 94, 95] (by decide +kernel) (by decide +kernel)
set_option maxRecDepth 20000 in
theorem gX6_behind_X6_isDoor : GoodIn wsX6_behind (wsV RX6 98 RX6 yX6_isDoor wsX6_isDoor) := goodIn_app (goodIn_of _ (by decide +kernel)) ggX6_behind_X6_isDoor
set_option maxRecDepth 20000 in
theorem ggX6_behind_X6_isLodger : GoodIn wsX6_behind wsX6_isLodger := goodIn_r _ [15, 3, 72, 73, 74, 75, 76, 77, 78, 79, 80, 81, 82, 83, 84, 85, 86, 87, 88, 89, 90, 91, 92, 93, 94, 95] (by decide +kernel) (by decide +kernel)
set_option maxRecDepth 20000 in
theorem gX6_behind_X6_isLodger : GoodIn wsX6_behind (wsV RX6 122 RX6 yX6_isLodger wsX6_isLodger) := goodIn_app (goodIn_of _ (by decide +kernel)) ggX6_behind_X6_isLodger
set_option maxRecDepth 20000 in
theorem ggX6_behind_X0_become : GoodIn wsX6_behind wsX0_become := goodIn_r _ [20, 21, 22, 23, 24, 25, 26, 6, 27, 96, 97, 98, 99, 100, 101] (by decide +kernel) (by decide +kernel)
set_option maxRecDepth 20000 in
theorem gX6_behind_X0_become : GoodIn wsX6_behind (wsV RX6 208 RX0 yX0_become wsX0_become) := goodIn_app (goodIn_of _ (by decide +kernel)) ggX6_behind_X0_become
set_option maxRecDepth 20000 in
theorem ggX6_behind_X0_sleepAgainstOne : GoodIn wsX6_behind wsX0_sleepAgainstOne := goodIn_r _ [31, 32, 33, 34, 19, 35, 36, 37, 6, 38, 39, 40, 41, 42, 43, 44, 22, 45, 46, 47, 48, 21, 49, 50, 51, 52, 53, 54, 55, 56, 57, 58, 59, 60, 61, 62, 63, 64, 65, 66, 67, 68, 69, 70, 96, 97, 98, 99, 100, 101, 81, 82, 83, 84, 85, 86, 87, 88, 89, 90, 91, 92, 93, 94, 95] (by decide +kernel) (by decide +kernel)
set_option maxRecDepth 20000 in
theorem gX6_behind_X0_sleepAgainstOne : GoodIn wsX6_behind (wsV RX6 211 RX0 yX0_sleepAgainstOne wsX0_sleepAgainstOne) := goodIn_app (goodIn_of _ (by decide +kernel)) ggX6_behind_X0_sleepAgainstOne
set_option maxRecDepth 20000 in
theorem ggX6_behind_X0_grudgeOf : GoodIn wsX6_behind wsX0_grudgeOf := goodIn_r _ [48, 21, 39, 6, 40, 96, 97, 98, 99, 100, 101] (by decide +kernel) (by decide +kernel)
set_option maxRecDepth 20000 in
theorem gX6_behind_X0_grudgeOf : GoodIn wsX6_behind (wsV RX6 134 RX0 yX0_grudgeOf wsX0_grudgeOf) := goodIn_app (goodIn_of _ (by decide +kernel)) ggX6_behind_X0_grudgeOf
theorem dX6_behind_0 : decode cX6_behind 0 = .ok (.iload_n 1, 1) := by decide +kernel
theorem dX6_behind_1 : decode cX6_behind 1 = .ok (.iconst 0, 1) := by decide +kernel
theorem dX6_behind_2 : decode cX6_behind 2 = .ok (.bipush 60, 2) := by decide +kernel
theorem dX6_behind_4 : decode cX6_behind 4 = .ok (.invokestatic 73, 3) := by decide +kernel
theorem dX6_behind_7 : decode cX6_behind 7 = .ok (.ifCond .eq 19, 3) := by decide +kernel
theorem dX6_behind_10 : decode cX6_behind 10 = .ok (.aload_n 0, 1) := by decide +kernel
theorem dX6_behind_11 : decode cX6_behind 11 = .ok (.iload_n 2, 1) := by decide +kernel
theorem dX6_behind_12 : decode cX6_behind 12 = .ok (.invokevirtual 98, 3) := by decide +kernel
theorem dX6_behind_15 : decode cX6_behind 15 = .ok (.ifCond .eq 11, 3) := by decide +kernel
theorem dX6_behind_18 : decode cX6_behind 18 = .ok (.aload_n 0, 1) := by decide +kernel
theorem dX6_behind_19 : decode cX6_behind 19 = .ok (.iload_n 3, 1) := by decide +kernel
theorem dX6_behind_20 : decode cX6_behind 20 = .ok (.invokevirtual 122, 3) := by decide +kernel
theorem dX6_behind_23 : decode cX6_behind 23 = .ok (.ifCond .ne 5, 3) := by decide +kernel
theorem dX6_behind_26 : decode cX6_behind 26 = .ok (.iconst (-1), 1) := by decide +kernel
theorem dX6_behind_27 : decode cX6_behind 27 = .ok (.ireturn, 1) := by decide +kernel
theorem dX6_behind_28 : decode cX6_behind 28 = .ok (.aload_n 0, 1) := by decide +kernel
theorem dX6_behind_29 : decode cX6_behind 29 = .ok (.getfield 23, 3) := by decide +kernel
theorem dX6_behind_32 : decode cX6_behind 32 = .ok (.aload_n 0, 1) := by decide +kernel
theorem dX6_behind_33 : decode cX6_behind 33 = .ok (.getfield 19, 3) := by decide +kernel
theorem dX6_behind_36 : decode cX6_behind 36 = .ok (.invokevirtual 208, 3) := by decide +kernel
theorem dX6_behind_39 : decode cX6_behind 39 = .ok (.aload_n 0, 1) := by decide +kernel
theorem dX6_behind_40 : decode cX6_behind 40 = .ok (.getfield 23, 3) := by decide +kernel
theorem dX6_behind_43 : decode cX6_behind 43 = .ok (.aload_n 0, 1) := by decide +kernel
theorem dX6_behind_44 : decode cX6_behind 44 = .ok (.getfield 55, 3) := by decide +kernel
theorem dX6_behind_47 : decode cX6_behind 47 = .ok (.iload_n 1, 1) := by decide +kernel
theorem dX6_behind_48 : decode cX6_behind 48 = .ok (.iload_n 3, 1) := by decide +kernel
theorem dX6_behind_49 : decode cX6_behind 49 = .ok (.invokevirtual 211, 3) := by decide +kernel
theorem dX6_behind_52 : decode cX6_behind 52 = .ok (.aload_n 0, 1) := by decide +kernel
theorem dX6_behind_53 : decode cX6_behind 53 = .ok (.getfield 23, 3) := by decide +kernel
theorem dX6_behind_56 : decode cX6_behind 56 = .ok (.iload_n 2, 1) := by decide +kernel
theorem dX6_behind_57 : decode cX6_behind 57 = .ok (.iload_n 3, 1) := by decide +kernel
theorem dX6_behind_58 : decode cX6_behind 58 = .ok (.invokevirtual 134, 3) := by decide +kernel
theorem dX6_behind_61 : decode cX6_behind 61 = .ok (.ireturn, 1) := by decide +kernel
set_option maxRecDepth 20000 in
theorem ggX6_worst_X6_within : GoodIn wsX6_worst wsX6_within := goodIn_r _ [7] (by decide +kernel) (by decide +kernel)
set_option maxRecDepth 20000 in
theorem gX6_worst_X6_within : GoodIn wsX6_worst (va_wsS RX6 73 yX6_within wsX6_within) := goodIn_app (goodIn_of _ (by decide +kernel)) ggX6_worst_X6_within
set_option maxRecDepth 20000 in
theorem ggX6_worst_X6_isLodger : GoodIn wsX6_worst wsX6_isLodger := goodIn_r _ [11, 3, 68, 69, 70, 71, 72, 73, 74, 75, 76, 77, 78, 79, 80, 81, 82, 83, 84, 85, 86, 87, 88, 89, 90, 91] (by decide +kernel) (by decide +kernel)
set_option maxRecDepth 20000 in
theorem gX6_worst_X6_isLodger : GoodIn wsX6_worst (wsV RX6 122 RX6 yX6_isLodger wsX6_isLodger) := goodIn_app (goodIn_of _ (by decide +kernel)) ggX6_worst_X6_isLodger
set_option maxRecDepth 20000 in
theorem ggX6_worst_X0_become : GoodIn wsX6_worst wsX0_become := goodIn_r _ [16, 17, 18, 19, 20, 21, 22, 6, 23, 92, 93, 94, 95, 96, 97] (by decide +kernel) (by decide +kernel)
set_option maxRecDepth 20000 in
theorem gX6_worst_X0_become : GoodIn wsX6_worst (wsV RX6 208 RX0 yX0_become wsX0_become) := goodIn_app (goodIn_of _ (by decide +kernel)) ggX6_worst_X0_become
set_option maxRecDepth 20000 in
theorem ggX6_worst_X0_sleepAgainstOne : GoodIn wsX6_worst wsX0_sleepAgainstOne := goodIn_r _ [27, 28, 29, 30, 15, 31, 32, 33, 6, 34, 35, 36, 37, 38, 39, 40, 18, 41, 42, 43, 44, 17, 45, 46, 47, 48, 49, 50, 51, 52, 53, 54, 55, 56, 57, 58, 59, 60, 61, 62, 63, 64, 65, 66, 92, 93, 94, 95, 96, 97, 77, 78, 79, 80, 81, 82, 83, 84, 85, 86, 87, 88, 89, 90, 91] (by decide +kernel) (by decide +kernel)
set_option maxRecDepth 20000 in
theorem gX6_worst_X0_sleepAgainstOne : GoodIn wsX6_worst (wsV RX6 211 RX0 yX0_sleepAgainstOne wsX0_sleepAgainstOne) := goodIn_app (goodIn_of _ (by decide +kernel)) ggX6_worst_X0_sleepAgainstOne
set_option maxRecDepth 20000 in
theorem ggX6_worst_X0_grudgeOf : GoodIn wsX6_worst wsX0_grudgeOf := goodIn_r _ [44, 17, 35, 6, 36, 92, 93, 94, 95, 96, 97] (by decide +kernel) (by decide +kernel)
set_option maxRecDepth 20000 in
theorem gX6_worst_X0_grudgeOf : GoodIn wsX6_worst (wsV RX6 134 RX0 yX0_grudgeOf wsX0_grudgeOf) := goodIn_app (goodIn_of _ (by decide +kernel)) ggX6_worst_X0_grudgeOf
theorem dX6_worst_0 : decode cX6_worst 0 = .ok (.iload_n 1, 1) := by decide +kernel
theorem dX6_worst_1 : decode cX6_worst 1 = .ok (.iconst 0, 1) := by decide +kernel
theorem dX6_worst_2 : decode cX6_worst 2 = .ok (.bipush 60, 2) := by decide +kernel
theorem dX6_worst_4 : decode cX6_worst 4 = .ok (.invokestatic 73, 3) := by decide +kernel
theorem dX6_worst_7 : decode cX6_worst 7 = .ok (.ifCond .eq 11, 3) := by decide +kernel
theorem dX6_worst_10 : decode cX6_worst 10 = .ok (.aload_n 0, 1) := by decide +kernel
theorem dX6_worst_11 : decode cX6_worst 11 = .ok (.iload_n 2, 1) := by decide +kernel
theorem dX6_worst_12 : decode cX6_worst 12 = .ok (.invokevirtual 122, 3) := by decide +kernel
theorem dX6_worst_15 : decode cX6_worst 15 = .ok (.ifCond .ne 5, 3) := by decide +kernel
theorem dX6_worst_18 : decode cX6_worst 18 = .ok (.iconst (-1), 1) := by decide +kernel
theorem dX6_worst_19 : decode cX6_worst 19 = .ok (.ireturn, 1) := by decide +kernel
theorem dX6_worst_20 : decode cX6_worst 20 = .ok (.aload_n 0, 1) := by decide +kernel
theorem dX6_worst_21 : decode cX6_worst 21 = .ok (.getfield 23, 3) := by decide +kernel
theorem dX6_worst_24 : decode cX6_worst 24 = .ok (.aload_n 0, 1) := by decide +kernel
theorem dX6_worst_25 : decode cX6_worst 25 = .ok (.getfield 19, 3) := by decide +kernel
theorem dX6_worst_28 : decode cX6_worst 28 = .ok (.invokevirtual 208, 3) := by decide +kernel
theorem dX6_worst_31 : decode cX6_worst 31 = .ok (.aload_n 0, 1) := by decide +kernel
theorem dX6_worst_32 : decode cX6_worst 32 = .ok (.getfield 23, 3) := by decide +kernel
theorem dX6_worst_35 : decode cX6_worst 35 = .ok (.aload_n 0, 1) := by decide +kernel
theorem dX6_worst_36 : decode cX6_worst 36 = .ok (.getfield 55, 3) := by decide +kernel
theorem dX6_worst_39 : decode cX6_worst 39 = .ok (.iload_n 1, 1) := by decide +kernel
theorem dX6_worst_40 : decode cX6_worst 40 = .ok (.iload_n 2, 1) := by decide +kernel
theorem dX6_worst_41 : decode cX6_worst 41 = .ok (.invokevirtual 211, 3) := by decide +kernel
theorem dX6_worst_44 : decode cX6_worst 44 = .ok (.iconst 0, 1) := by decide +kernel
theorem dX6_worst_45 : decode cX6_worst 45 = .ok (.istore_n 3, 1) := by decide +kernel
theorem dX6_worst_46 : decode cX6_worst 46 = .ok (.iconst 1, 1) := by decide +kernel
theorem dX6_worst_47 : decode cX6_worst 47 = .ok (.istore 4, 2) := by decide +kernel
theorem dX6_worst_49 : decode cX6_worst 49 = .ok (.iload 4, 2) := by decide +kernel
theorem dX6_worst_51 : decode cX6_worst 51 = .ok (.aload_n 0, 1) := by decide +kernel
theorem dX6_worst_52 : decode cX6_worst 52 = .ok (.getfield 55, 3) := by decide +kernel
theorem dX6_worst_55 : decode cX6_worst 55 = .ok (.getfield 95, 3) := by decide +kernel
theorem dX6_worst_58 : decode cX6_worst 58 = .ok (.if_icmp .ge 34, 3) := by decide +kernel
theorem dX6_worst_61 : decode cX6_worst 61 = .ok (.aload_n 0, 1) := by decide +kernel
theorem dX6_worst_62 : decode cX6_worst 62 = .ok (.getfield 23, 3) := by decide +kernel
theorem dX6_worst_65 : decode cX6_worst 65 = .ok (.iload 4, 2) := by decide +kernel
theorem dX6_worst_67 : decode cX6_worst 67 = .ok (.iload_n 2, 1) := by decide +kernel
theorem dX6_worst_68 : decode cX6_worst 68 = .ok (.invokevirtual 134, 3) := by decide +kernel
theorem dX6_worst_71 : decode cX6_worst 71 = .ok (.aload_n 0, 1) := by decide +kernel
theorem dX6_worst_72 : decode cX6_worst 72 = .ok (.getfield 23, 3) := by decide +kernel
theorem dX6_worst_75 : decode cX6_worst 75 = .ok (.iload_n 3, 1) := by decide +kernel
theorem dX6_worst_76 : decode cX6_worst 76 = .ok (.iload_n 2, 1) := by decide +kernel
theorem dX6_worst_77 : decode cX6_worst 77 = .ok (.invokevirtual 134, 3) := by decide +kernel
theorem dX6_worst_80 : decode cX6_worst 80 = .ok (.if_icmp .le 6, 3) := by decide +kernel
theorem dX6_worst_83 : decode cX6_worst 83 = .ok (.iload 4, 2) := by decide +kernel
theorem dX6_worst_85 : decode cX6_worst 85 = .ok (.istore_n 3, 1) := by decide +kernel
theorem dX6_worst_86 : decode cX6_worst 86 = .ok (.iinc 4 1, 3) := by decide +kernel
theorem dX6_worst_89 : decode cX6_worst 89 = .ok (.goto (-40), 3) := by decide +kernel
theorem dX6_worst_92 : decode cX6_worst 92 = .ok (.iload_n 3, 1) := by decide +kernel
theorem dX6_worst_93 : decode cX6_worst 93 = .ok (.ireturn, 1) := by decide +kernel
set_option maxRecDepth 20000 in
theorem ggX6_stop_X6_within : GoodIn wsX6_stop wsX6_within := goodIn_r _ [5] (by decide +kernel) (by decide +kernel)
set_option maxRecDepth 20000 in
theorem gX6_stop_X6_within : GoodIn wsX6_stop (va_wsS RX6 73 yX6_within wsX6_within) := goodIn_app (goodIn_of _ (by decide +kernel)) ggX6_stop_X6_within
set_option maxRecDepth 20000 in
theorem ggX6_stop_X6_isDoor : GoodIn wsX6_stop wsX6_isDoor := goodIn_r _ [9, 1, 87, 88, 89, 90, 91, 92, 93, 94, 95, 96, 97, 98, 99, 100, 101, 102, 103, 104, 105, 106, 107, 108, 109, 110] (by decide +kernel) (by decide +kernel)
set_option maxRecDepth 20000 in
theorem gX6_stop_X6_isDoor : GoodIn wsX6_stop (wsV RX6 98 RX6 yX6_isDoor wsX6_isDoor) := goodIn_app (goodIn_of _ (by decide +kernel)) ggX6_stop_X6_isDoor
set_option maxRecDepth 20000 in
theorem ggX6_stop_X6_isLodger : GoodIn wsX6_stop wsX6_isLodger := goodIn_r _ [13, 1, 87, 88, 89, 90, 91, 92, 93, 94, 95, 96, 97, 98, 99, 100, 101, 102, 103, 104, 105, 106, 107, 108, 109, 110] (by decide +kernel) (by decide +kernel)
set_option maxRecDepth 20000 in
theorem gX6_stop_X6_isLodger : GoodIn wsX6_stop (wsV RX6 122 RX6 yX6_isLodger wsX6_isLodger) := goodIn_app (goodIn_of _ (by decide +kernel)) ggX6_stop_X6_isLodger
set_option maxRecDepth 20000 in
theorem ggX6_stop_J6_bitCount_0f7a4 : GoodIn wsX6_stop wsJ6_bitCount_0f7a4 := goodIn_r _ [17, 18, 19, 20] (by decide +kernel) (by decide +kernel)
set_option maxRecDepth 20000 in
theorem gX6_stop_J6_bitCount_0f7a4 : GoodIn wsX6_stop (va_wsS RX6 188 yJ6_bitCount_0f7a4 wsJ6_bitCount_0f7a4) := goodIn_app (goodIn_of _ (by decide +kernel)) ggX6_stop_J6_bitCount_0f7a4
set_option maxRecDepth 20000 in
theorem ggX6_stop_X6_holds : GoodIn wsX6_stop wsX6_holds := goodIn_r _ [23] (by decide +kernel) (by decide +kernel)
set_option maxRecDepth 20000 in
theorem gX6_stop_X6_holds : GoodIn wsX6_stop (va_wsS RX6 215 yX6_holds wsX6_holds) := goodIn_app (goodIn_of _ (by decide +kernel)) ggX6_stop_X6_holds
set_option maxRecDepth 20000 in
theorem ggX6_stop_X6_grudgeBehindWith : GoodIn wsX6_stop wsX6_grudgeBehindWith := goodIn_r _ [27, 28, 29, 1, 30, 31, 32, 33, 34, 35, 36, 37, 38, 39, 40, 4, 41, 21, 22, 23, 42, 43, 44, 45, 46, 47, 48, 49, 50, 51, 52, 53, 54, 55, 56, 57, 58, 59, 60, 61, 62, 63, 64, 65, 66, 67, 68, 69, 70, 71, 72, 73, 74, 75, 76, 77, 78, 79, 80, 81, 82, 83, 84, 85, 86, 87, 88, 89, 90, 91, 92, 93, 94, 95, 96, 97, 98, 99, 100, 101, 102, 103, 104, 105, 106, 107, 108, 109, 110, 111, 112, 113, 114, 115, 116] (by decide +kernel) (by decide +kernel)
set_option maxRecDepth 20000 in
theorem gX6_stop_X6_grudgeBehindWith : GoodIn wsX6_stop (wsV RX6 219 RX6 yX6_grudgeBehindWith wsX6_grudgeBehindWith) := goodIn_app (goodIn_of _ (by decide +kernel)) ggX6_stop_X6_grudgeBehindWith
theorem dX6_stop_0 : decode cX6_stop 0 = .ok (.iload_n 1, 1) := by decide +kernel
theorem dX6_stop_1 : decode cX6_stop 1 = .ok (.iconst 0, 1) := by decide +kernel
theorem dX6_stop_2 : decode cX6_stop 2 = .ok (.bipush 60, 2) := by decide +kernel
theorem dX6_stop_4 : decode cX6_stop 4 = .ok (.invokestatic 73, 3) := by decide +kernel
theorem dX6_stop_7 : decode cX6_stop 7 = .ok (.ifCond .eq 30, 3) := by decide +kernel
theorem dX6_stop_10 : decode cX6_stop 10 = .ok (.aload_n 0, 1) := by decide +kernel
theorem dX6_stop_11 : decode cX6_stop 11 = .ok (.iload_n 2, 1) := by decide +kernel
theorem dX6_stop_12 : decode cX6_stop 12 = .ok (.invokevirtual 98, 3) := by decide +kernel
theorem dX6_stop_15 : decode cX6_stop 15 = .ok (.ifCond .eq 22, 3) := by decide +kernel
theorem dX6_stop_18 : decode cX6_stop 18 = .ok (.aload_n 0, 1) := by decide +kernel
theorem dX6_stop_19 : decode cX6_stop 19 = .ok (.iload_n 3, 1) := by decide +kernel
theorem dX6_stop_20 : decode cX6_stop 20 = .ok (.invokevirtual 122, 3) := by decide +kernel
theorem dX6_stop_23 : decode cX6_stop 23 = .ok (.ifCond .eq 14, 3) := by decide +kernel
theorem dX6_stop_26 : decode cX6_stop 26 = .ok (.iload 4, 2) := by decide +kernel
theorem dX6_stop_28 : decode cX6_stop 28 = .ok (.iconst 1, 1) := by decide +kernel
theorem dX6_stop_29 : decode cX6_stop 29 = .ok (.bipush 99, 2) := by decide +kernel
theorem dX6_stop_31 : decode cX6_stop 31 = .ok (.invokestatic 73, 3) := by decide +kernel
theorem dX6_stop_34 : decode cX6_stop 34 = .ok (.ifCond .ne 5, 3) := by decide +kernel
theorem dX6_stop_37 : decode cX6_stop 37 = .ok (.iconst (-1), 1) := by decide +kernel
theorem dX6_stop_38 : decode cX6_stop 38 = .ok (.ireturn, 1) := by decide +kernel
theorem dX6_stop_39 : decode cX6_stop 39 = .ok (.iconst 1, 1) := by decide +kernel
theorem dX6_stop_40 : decode cX6_stop 40 = .ok (.aload_n 0, 1) := by decide +kernel
theorem dX6_stop_41 : decode cX6_stop 41 = .ok (.getfield 55, 3) := by decide +kernel
theorem dX6_stop_44 : decode cX6_stop 44 = .ok (.getfield 95, 3) := by decide +kernel
theorem dX6_stop_47 : decode cX6_stop 47 = .ok (.ishl, 1) := by decide +kernel
theorem dX6_stop_48 : decode cX6_stop 48 = .ok (.istore 5, 2) := by decide +kernel
theorem dX6_stop_50 : decode cX6_stop 50 = .ok (.iconst 0, 1) := by decide +kernel
theorem dX6_stop_51 : decode cX6_stop 51 = .ok (.istore 6, 2) := by decide +kernel
theorem dX6_stop_53 : decode cX6_stop 53 = .ok (.iload 6, 2) := by decide +kernel
theorem dX6_stop_55 : decode cX6_stop 55 = .ok (.aload_n 0, 1) := by decide +kernel
theorem dX6_stop_56 : decode cX6_stop 56 = .ok (.getfield 55, 3) := by decide +kernel
theorem dX6_stop_59 : decode cX6_stop 59 = .ok (.getfield 95, 3) := by decide +kernel
theorem dX6_stop_62 : decode cX6_stop 62 = .ok (.if_icmp .ge 73, 3) := by decide +kernel
theorem dX6_stop_65 : decode cX6_stop 65 = .ok (.iconst 0, 1) := by decide +kernel
theorem dX6_stop_66 : decode cX6_stop 66 = .ok (.istore 7, 2) := by decide +kernel
theorem dX6_stop_68 : decode cX6_stop 68 = .ok (.iload 7, 2) := by decide +kernel
theorem dX6_stop_70 : decode cX6_stop 70 = .ok (.iload 5, 2) := by decide +kernel
theorem dX6_stop_72 : decode cX6_stop 72 = .ok (.if_icmp .ge 57, 3) := by decide +kernel
theorem dX6_stop_75 : decode cX6_stop 75 = .ok (.iload 7, 2) := by decide +kernel
theorem dX6_stop_77 : decode cX6_stop 77 = .ok (.invokestatic 188, 3) := by decide +kernel
theorem dX6_stop_80 : decode cX6_stop 80 = .ok (.iload 6, 2) := by decide +kernel
theorem dX6_stop_82 : decode cX6_stop 82 = .ok (.if_icmp .ne 16, 3) := by decide +kernel
theorem dX6_stop_85 : decode cX6_stop 85 = .ok (.iload 7, 2) := by decide +kernel
theorem dX6_stop_87 : decode cX6_stop 87 = .ok (.iload_n 2, 1) := by decide +kernel
theorem dX6_stop_88 : decode cX6_stop 88 = .ok (.invokestatic 215, 3) := by decide +kernel
theorem dX6_stop_91 : decode cX6_stop 91 = .ok (.ifCond .ne 7, 3) := by decide +kernel
theorem dX6_stop_94 : decode cX6_stop 94 = .ok (.iconst 1, 1) := by decide +kernel
theorem dX6_stop_95 : decode cX6_stop 95 = .ok (.goto 4, 3) := by decide +kernel
theorem dX6_stop_98 : decode cX6_stop 98 = .ok (.iconst 0, 1) := by decide +kernel
theorem dX6_stop_99 : decode cX6_stop 99 = .ok (.istore 8, 2) := by decide +kernel
theorem dX6_stop_101 : decode cX6_stop 101 = .ok (.iload 8, 2) := by decide +kernel
theorem dX6_stop_103 : decode cX6_stop 103 = .ok (.ifCond .eq 20, 3) := by decide +kernel
theorem dX6_stop_106 : decode cX6_stop 106 = .ok (.aload_n 0, 1) := by decide +kernel
theorem dX6_stop_107 : decode cX6_stop 107 = .ok (.iload 7, 2) := by decide +kernel
theorem dX6_stop_109 : decode cX6_stop 109 = .ok (.iload_n 1, 1) := by decide +kernel
theorem dX6_stop_110 : decode cX6_stop 110 = .ok (.iload_n 2, 1) := by decide +kernel
theorem dX6_stop_111 : decode cX6_stop 111 = .ok (.iload_n 3, 1) := by decide +kernel
theorem dX6_stop_112 : decode cX6_stop 112 = .ok (.invokevirtual 219, 3) := by decide +kernel
theorem dX6_stop_115 : decode cX6_stop 115 = .ok (.iload 4, 2) := by decide +kernel
theorem dX6_stop_117 : decode cX6_stop 117 = .ok (.if_icmp .ge 6, 3) := by decide +kernel
theorem dX6_stop_120 : decode cX6_stop 120 = .ok (.iload 7, 2) := by decide +kernel
theorem dX6_stop_122 : decode cX6_stop 122 = .ok (.ireturn, 1) := by decide +kernel
theorem dX6_stop_123 : decode cX6_stop 123 = .ok (.iinc 7 1, 3) := by decide +kernel
theorem dX6_stop_126 : decode cX6_stop 126 = .ok (.goto (-58), 3) := by decide +kernel
theorem dX6_stop_129 : decode cX6_stop 129 = .ok (.iinc 6 1, 3) := by decide +kernel
theorem dX6_stop_132 : decode cX6_stop 132 = .ok (.goto (-79), 3) := by decide +kernel
theorem dX6_stop_135 : decode cX6_stop 135 = .ok (.bipush (-4), 2) := by decide +kernel
theorem dX6_stop_137 : decode cX6_stop 137 = .ok (.ireturn, 1) := by decide +kernel
set_option maxRecDepth 20000 in
theorem ggX6_how_X6_within : GoodIn wsX6_how wsX6_within := goodIn_r _ [9] (by decide +kernel) (by decide +kernel)
set_option maxRecDepth 20000 in
theorem gX6_how_X6_within : GoodIn wsX6_how (va_wsS RX6 73 yX6_within wsX6_within) := goodIn_app (goodIn_of _ (by decide +kernel)) ggX6_how_X6_within
set_option maxRecDepth 20000 in
theorem ggX6_how_X6_isLodger : GoodIn wsX6_how wsX6_isLodger := goodIn_r _ [13, 1, 48, 49, 50, 51, 52, 53, 54, 55, 56, 57, 58, 59, 60, 61, 62, 63, 64, 65, 66, 67, 68, 69, 70, 71] (by decide +kernel) (by decide +kernel)
set_option maxRecDepth 20000 in
theorem gX6_how_X6_isLodger : GoodIn wsX6_how (wsV RX6 122 RX6 yX6_isLodger wsX6_isLodger) := goodIn_app (goodIn_of _ (by decide +kernel)) ggX6_how_X6_isLodger
set_option maxRecDepth 20000 in
theorem ggX6_how_X6_isDoor : GoodIn wsX6_how wsX6_isDoor := goodIn_r _ [17, 1, 48, 49, 50, 51, 52, 53, 54, 55, 56, 57, 58, 59, 60, 61, 62, 63, 64, 65, 66, 67, 68, 69, 70, 71] (by decide +kernel) (by decide +kernel)
set_option maxRecDepth 20000 in
theorem gX6_how_X6_isDoor : GoodIn wsX6_how (wsV RX6 98 RX6 yX6_isDoor wsX6_isDoor) := goodIn_app (goodIn_of _ (by decide +kernel)) ggX6_how_X6_isDoor
set_option maxRecDepth 20000 in
theorem ggX6_how_X2_grudgeAfter : GoodIn wsX6_how wsX2_grudgeAfter := goodIn_r _ [22, 23, 24, 8, 25, 26, 27, 28, 29, 30, 21, 31, 32, 33, 34, 35, 2, 3, 4, 5, 36, 37, 38, 39, 40, 57, 58, 59, 60, 61, 62, 63, 64, 65, 66, 67, 68, 69, 70, 71] (by decide +kernel) (by decide +kernel)
set_option maxRecDepth 20000 in
theorem gX6_how_X2_grudgeAfter : GoodIn wsX6_how (wsV RX6 223 RX2 yX2_grudgeAfter wsX2_grudgeAfter) := goodIn_app (goodIn_of _ (by decide +kernel)) ggX6_how_X2_grudgeAfter
set_option maxRecDepth 20000 in
theorem ggX6_how_J6_bitCount_0f7a4 : GoodIn wsX6_how wsJ6_bitCount_0f7a4 := goodIn_r _ [44, 45, 46, 47] (by decide +kernel) (by decide +kernel)
set_option maxRecDepth 20000 in
theorem gX6_how_J6_bitCount_0f7a4 : GoodIn wsX6_how (va_wsS RX6 188 yJ6_bitCount_0f7a4 wsJ6_bitCount_0f7a4) := goodIn_app (goodIn_of _ (by decide +kernel)) ggX6_how_J6_bitCount_0f7a4
theorem dX6_how_0 : decode cX6_how 0 = .ok (.iload_n 3, 1) := by decide +kernel
theorem dX6_how_1 : decode cX6_how 1 = .ok (.iconst 0, 1) := by decide +kernel
theorem dX6_how_2 : decode cX6_how 2 = .ok (.bipush 8, 2) := by decide +kernel
theorem dX6_how_4 : decode cX6_how 4 = .ok (.invokestatic 73, 3) := by decide +kernel
theorem dX6_how_7 : decode cX6_how 7 = .ok (.ifCond .eq 28, 3) := by decide +kernel
theorem dX6_how_10 : decode cX6_how 10 = .ok (.iload 4, 2) := by decide +kernel
theorem dX6_how_12 : decode cX6_how 12 = .ok (.iconst 1, 1) := by decide +kernel
theorem dX6_how_13 : decode cX6_how 13 = .ok (.bipush 100, 2) := by decide +kernel
theorem dX6_how_15 : decode cX6_how 15 = .ok (.invokestatic 73, 3) := by decide +kernel
theorem dX6_how_18 : decode cX6_how 18 = .ok (.ifCond .eq 17, 3) := by decide +kernel
theorem dX6_how_21 : decode cX6_how 21 = .ok (.iload 5, 2) := by decide +kernel
theorem dX6_how_23 : decode cX6_how 23 = .ok (.iconst 0, 1) := by decide +kernel
theorem dX6_how_24 : decode cX6_how 24 = .ok (.iconst 1, 1) := by decide +kernel
theorem dX6_how_25 : decode cX6_how 25 = .ok (.invokestatic 73, 3) := by decide +kernel
theorem dX6_how_28 : decode cX6_how 28 = .ok (.ifCond .eq 7, 3) := by decide +kernel
theorem dX6_how_31 : decode cX6_how 31 = .ok (.iconst 1, 1) := by decide +kernel
theorem dX6_how_32 : decode cX6_how 32 = .ok (.goto 4, 3) := by decide +kernel
theorem dX6_how_35 : decode cX6_how 35 = .ok (.iconst 0, 1) := by decide +kernel
theorem dX6_how_36 : decode cX6_how 36 = .ok (.istore 6, 2) := by decide +kernel
theorem dX6_how_38 : decode cX6_how 38 = .ok (.aload_n 0, 1) := by decide +kernel
theorem dX6_how_39 : decode cX6_how 39 = .ok (.iload_n 1, 1) := by decide +kernel
theorem dX6_how_40 : decode cX6_how 40 = .ok (.invokevirtual 122, 3) := by decide +kernel
theorem dX6_how_43 : decode cX6_how 43 = .ok (.ifCond .eq 16, 3) := by decide +kernel
theorem dX6_how_46 : decode cX6_how 46 = .ok (.aload_n 0, 1) := by decide +kernel
theorem dX6_how_47 : decode cX6_how 47 = .ok (.iload_n 2, 1) := by decide +kernel
theorem dX6_how_48 : decode cX6_how 48 = .ok (.invokevirtual 98, 3) := by decide +kernel
theorem dX6_how_51 : decode cX6_how 51 = .ok (.ifCond .eq 8, 3) := by decide +kernel
theorem dX6_how_54 : decode cX6_how 54 = .ok (.iload 6, 2) := by decide +kernel
theorem dX6_how_56 : decode cX6_how 56 = .ok (.ifCond .ne 5, 3) := by decide +kernel
theorem dX6_how_59 : decode cX6_how 59 = .ok (.iconst (-1), 1) := by decide +kernel
theorem dX6_how_60 : decode cX6_how 60 = .ok (.ireturn, 1) := by decide +kernel
theorem dX6_how_61 : decode cX6_how 61 = .ok (.iconst 0, 1) := by decide +kernel
theorem dX6_how_62 : decode cX6_how 62 = .ok (.istore 7, 2) := by decide +kernel
theorem dX6_how_64 : decode cX6_how 64 = .ok (.bipush 9, 2) := by decide +kernel
theorem dX6_how_66 : decode cX6_how 66 = .ok (.istore 8, 2) := by decide +kernel
theorem dX6_how_68 : decode cX6_how 68 = .ok (.iconst 0, 1) := by decide +kernel
theorem dX6_how_69 : decode cX6_how 69 = .ok (.istore 9, 2) := by decide +kernel
theorem dX6_how_71 : decode cX6_how 71 = .ok (.iload 9, 2) := by decide +kernel
theorem dX6_how_73 : decode cX6_how 73 = .ok (.iconst 1, 1) := by decide +kernel
theorem dX6_how_74 : decode cX6_how 74 = .ok (.iload_n 3, 1) := by decide +kernel
theorem dX6_how_75 : decode cX6_how 75 = .ok (.ishl, 1) := by decide +kernel
theorem dX6_how_76 : decode cX6_how 76 = .ok (.if_icmp .ge 43, 3) := by decide +kernel
theorem dX6_how_79 : decode cX6_how 79 = .ok (.iconst 1, 1) := by decide +kernel
theorem dX6_how_80 : decode cX6_how 80 = .ok (.aload_n 0, 1) := by decide +kernel
theorem dX6_how_81 : decode cX6_how 81 = .ok (.getfield 55, 3) := by decide +kernel
theorem dX6_how_84 : decode cX6_how 84 = .ok (.iload_n 2, 1) := by decide +kernel
theorem dX6_how_85 : decode cX6_how 85 = .ok (.iload_n 1, 1) := by decide +kernel
theorem dX6_how_86 : decode cX6_how 86 = .ok (.iload_n 3, 1) := by decide +kernel
theorem dX6_how_87 : decode cX6_how 87 = .ok (.iload 9, 2) := by decide +kernel
theorem dX6_how_89 : decode cX6_how 89 = .ok (.invokevirtual 223, 3) := by decide +kernel
theorem dX6_how_92 : decode cX6_how 92 = .ok (.iadd, 1) := by decide +kernel
theorem dX6_how_93 : decode cX6_how 93 = .ok (.iload 4, 2) := by decide +kernel
theorem dX6_how_95 : decode cX6_how 95 = .ok (.if_icmp .ne 18, 3) := by decide +kernel
theorem dX6_how_98 : decode cX6_how 98 = .ok (.iinc 7 1, 3) := by decide +kernel
theorem dX6_how_101 : decode cX6_how 101 = .ok (.iload 8, 2) := by decide +kernel
theorem dX6_how_103 : decode cX6_how 103 = .ok (.iload 9, 2) := by decide +kernel
theorem dX6_how_105 : decode cX6_how 105 = .ok (.invokestatic 188, 3) := by decide +kernel
theorem dX6_how_108 : decode cX6_how 108 = .ok (.invokestatic 226, 3) := by decide +kernel
theorem dX6_how_111 : decode cX6_how 111 = .ok (.istore 8, 2) := by decide +kernel
theorem dX6_how_113 : decode cX6_how 113 = .ok (.iinc 9 1, 3) := by decide +kernel
theorem dX6_how_116 : decode cX6_how 116 = .ok (.goto (-45), 3) := by decide +kernel
theorem dX6_how_119 : decode cX6_how 119 = .ok (.iload 5, 2) := by decide +kernel
theorem dX6_how_121 : decode cX6_how 121 = .ok (.ifCond .ne 6, 3) := by decide +kernel
theorem dX6_how_124 : decode cX6_how 124 = .ok (.iload 7, 2) := by decide +kernel
theorem dX6_how_126 : decode cX6_how 126 = .ok (.ireturn, 1) := by decide +kernel
theorem dX6_how_127 : decode cX6_how 127 = .ok (.iload 7, 2) := by decide +kernel
theorem dX6_how_129 : decode cX6_how 129 = .ok (.ifCond .le 8, 3) := by decide +kernel
theorem dX6_how_132 : decode cX6_how 132 = .ok (.iload 8, 2) := by decide +kernel
theorem dX6_how_134 : decode cX6_how 134 = .ok (.goto 5, 3) := by decide +kernel
theorem dX6_how_137 : decode cX6_how 137 = .ok (.bipush (-4), 2) := by decide +kernel
theorem dX6_how_139 : decode cX6_how 139 = .ok (.ireturn, 1) := by decide +kernel
set_option maxRecDepth 20000 in
theorem ggX6_fresh_X6_isDoor : GoodIn wsX6_fresh wsX6_isDoor := goodIn_r _ [6, 1, 24, 25, 26, 27, 28, 29, 30, 31, 32, 33, 34, 35, 36, 37, 38, 39, 40, 41, 42, 43, 44, 45, 46, 47] (by decide +kernel) (by decide +kernel)
set_option maxRecDepth 20000 in
theorem gX6_fresh_X6_isDoor : GoodIn wsX6_fresh (wsV RX6 98 RX6 yX6_isDoor wsX6_isDoor) := goodIn_app (goodIn_of _ (by decide +kernel)) ggX6_fresh_X6_isDoor
set_option maxRecDepth 20000 in
theorem ggX6_fresh_X6_grudgeAgainstNew : GoodIn wsX6_fresh wsX6_grudgeAgainstNew := goodIn_r _ [10, 1, 11, 12, 13, 14, 15, 16, 17, 18, 19, 20, 21, 22, 5, 23, 24, 25, 26, 27, 28, 29, 30, 31, 32, 33, 34, 35, 36, 37, 38, 39, 40, 41, 42, 43, 44, 45, 46, 47, 48, 49, 50, 51, 52, 53] (by decide +kernel) (by decide +kernel)
set_option maxRecDepth 20000 in
theorem gX6_fresh_X6_grudgeAgainstNew : GoodIn wsX6_fresh (wsV RX6 231 RX6 yX6_grudgeAgainstNew wsX6_grudgeAgainstNew) := goodIn_app (goodIn_of _ (by decide +kernel)) ggX6_fresh_X6_grudgeAgainstNew
theorem dX6_fresh_0 : decode cX6_fresh 0 = .ok (.iload_n 1, 1) := by decide +kernel
theorem dX6_fresh_1 : decode cX6_fresh 1 = .ok (.iconst (-1), 1) := by decide +kernel
theorem dX6_fresh_2 : decode cX6_fresh 2 = .ok (.if_icmp .eq 13, 3) := by decide +kernel
theorem dX6_fresh_5 : decode cX6_fresh 5 = .ok (.aload_n 0, 1) := by decide +kernel
theorem dX6_fresh_6 : decode cX6_fresh 6 = .ok (.iload_n 1, 1) := by decide +kernel
theorem dX6_fresh_7 : decode cX6_fresh 7 = .ok (.invokevirtual 98, 3) := by decide +kernel
theorem dX6_fresh_10 : decode cX6_fresh 10 = .ok (.ifCond .ne 5, 3) := by decide +kernel
theorem dX6_fresh_13 : decode cX6_fresh 13 = .ok (.iconst (-1), 1) := by decide +kernel
theorem dX6_fresh_14 : decode cX6_fresh 14 = .ok (.ireturn, 1) := by decide +kernel
theorem dX6_fresh_15 : decode cX6_fresh 15 = .ok (.iload_n 1, 1) := by decide +kernel
theorem dX6_fresh_16 : decode cX6_fresh 16 = .ok (.ifCond .lt 9, 3) := by decide +kernel
theorem dX6_fresh_19 : decode cX6_fresh 19 = .ok (.aload_n 0, 1) := by decide +kernel
theorem dX6_fresh_20 : decode cX6_fresh 20 = .ok (.iload_n 1, 1) := by decide +kernel
theorem dX6_fresh_21 : decode cX6_fresh 21 = .ok (.invokevirtual 231, 3) := by decide +kernel
theorem dX6_fresh_24 : decode cX6_fresh 24 = .ok (.ireturn, 1) := by decide +kernel
theorem dX6_fresh_25 : decode cX6_fresh 25 = .ok (.iconst 0, 1) := by decide +kernel
theorem dX6_fresh_26 : decode cX6_fresh 26 = .ok (.istore_n 2, 1) := by decide +kernel
theorem dX6_fresh_27 : decode cX6_fresh 27 = .ok (.iconst 1, 1) := by decide +kernel
theorem dX6_fresh_28 : decode cX6_fresh 28 = .ok (.istore_n 3, 1) := by decide +kernel
theorem dX6_fresh_29 : decode cX6_fresh 29 = .ok (.iload_n 3, 1) := by decide +kernel
theorem dX6_fresh_30 : decode cX6_fresh 30 = .ok (.aload_n 0, 1) := by decide +kernel
theorem dX6_fresh_31 : decode cX6_fresh 31 = .ok (.getfield 55, 3) := by decide +kernel
theorem dX6_fresh_34 : decode cX6_fresh 34 = .ok (.getfield 95, 3) := by decide +kernel
theorem dX6_fresh_37 : decode cX6_fresh 37 = .ok (.if_icmp .ge 24, 3) := by decide +kernel
theorem dX6_fresh_40 : decode cX6_fresh 40 = .ok (.aload_n 0, 1) := by decide +kernel
theorem dX6_fresh_41 : decode cX6_fresh 41 = .ok (.iload_n 3, 1) := by decide +kernel
theorem dX6_fresh_42 : decode cX6_fresh 42 = .ok (.invokevirtual 231, 3) := by decide +kernel
theorem dX6_fresh_45 : decode cX6_fresh 45 = .ok (.aload_n 0, 1) := by decide +kernel
theorem dX6_fresh_46 : decode cX6_fresh 46 = .ok (.iload_n 2, 1) := by decide +kernel
theorem dX6_fresh_47 : decode cX6_fresh 47 = .ok (.invokevirtual 231, 3) := by decide +kernel
theorem dX6_fresh_50 : decode cX6_fresh 50 = .ok (.if_icmp .ge 5, 3) := by decide +kernel
theorem dX6_fresh_53 : decode cX6_fresh 53 = .ok (.iload_n 3, 1) := by decide +kernel
theorem dX6_fresh_54 : decode cX6_fresh 54 = .ok (.istore_n 2, 1) := by decide +kernel
theorem dX6_fresh_55 : decode cX6_fresh 55 = .ok (.iinc 3 1, 3) := by decide +kernel
theorem dX6_fresh_58 : decode cX6_fresh 58 = .ok (.goto (-29), 3) := by decide +kernel
theorem dX6_fresh_61 : decode cX6_fresh 61 = .ok (.iload_n 2, 1) := by decide +kernel
theorem dX6_fresh_62 : decode cX6_fresh 62 = .ok (.ireturn, 1) := by decide +kernel
set_option maxRecDepth 20000 in
theorem ggX6_week_X6_within : GoodIn wsX6_week wsX6_within := goodIn_r _ [10] (by decide +kernel) (by decide +kernel)
set_option maxRecDepth 20000 in
theorem gX6_week_X6_within : GoodIn wsX6_week (va_wsS RX6 73 yX6_within wsX6_within) := goodIn_app (goodIn_of _ (by decide +kernel)) ggX6_week_X6_within
set_option maxRecDepth 20000 in
theorem ggX6_week_X0_become : GoodIn wsX6_week wsX0_become := goodIn_r _ [15, 16, 17, 18, 19, 20, 21, 9, 22, 138, 139, 140, 141, 142, 143] (by decide +kernel) (by decide +kernel)
set_option maxRecDepth 20000 in
theorem gX6_week_X0_become : GoodIn wsX6_week (wsV RX6 208 RX0 yX0_become wsX0_become) := goodIn_app (goodIn_of _ (by decide +kernel)) ggX6_week_X0_become
set_option maxRecDepth 20000 in
theorem ggX6_week_X6_goThereAndBack : GoodIn wsX6_week wsX6_goThereAndBack := goodIn_r _ [26, 6, 1, 27, 28, 9, 29, 30, 31, 32, 33, 34, 35, 36, 37, 38, 39, 40, 41, 42, 43, 44, 45, 46, 47, 14, 48, 49, 50, 51, 52, 17, 53, 54, 55, 56, 16, 57, 58, 59, 60, 61, 62, 63, 64, 65, 66, 67, 68, 69, 70, 71, 72, 73, 74, 75, 76, 77, 78, 79, 80, 81, 82, 83, 19, 18, 84, 85, 86, 87, 88, 89, 90, 91, 92, 93, 94, 95, 96, 97, 98, 99, 100, 101, 102, 103, 104, 105, 106, 129, 130, 131, 132, 133, 134, 135, 136, 137, 144, 145, 146, 147, 148, 149, 150, 151, 152, 153, 154, 155, 156, 157, 158, 138, 139, 140, 141, 142, 143, 159, 160] (by decide +kernel) (by decide +kernel)
set_option maxRecDepth 20000 in
theorem gX6_week_X6_goThereAndBack : GoodIn wsX6_week (wsV RX6 240 RX6 yX6_goThereAndBack wsX6_goThereAndBack) := goodIn_app (goodIn_of _ (by decide +kernel)) ggX6_week_X6_goThereAndBack
set_option maxRecDepth 20000 in
theorem ggX6_week_X0_sleep : GoodIn wsX6_week wsX0_sleep := goodIn_r _ [110, 20, 111, 112, 113, 14, 114, 115, 59, 9, 60, 28, 29, 49, 50, 51, 52, 17, 53, 54, 55, 56, 16, 57, 58, 98, 99, 100, 101, 96, 102, 92, 93, 94, 95, 97, 103, 104, 105, 106, 116, 117, 118, 119, 120, 144, 145, 146, 147, 148, 149, 150, 151, 152, 153, 154, 155, 156, 157, 158, 138, 139, 140, 141, 142, 143] (by decide +kernel) (by decide +kernel)
set_option maxRecDepth 20000 in
theorem gX6_week_X0_sleep : GoodIn wsX6_week (wsV RX6 163 RX0 yX0_sleep wsX0_sleep) := goodIn_app (goodIn_of _ (by decide +kernel)) ggX6_week_X0_sleep
set_option maxRecDepth 20000 in
theorem ggX6_week_X0_allGrudges : GoodIn wsX6_week wsX0_allGrudges := goodIn_r _ [124, 125, 126, 127, 14, 128, 53, 54, 55, 56, 16, 28, 9, 29, 144, 145, 146, 147, 148, 149, 150, 151, 152, 153, 154, 155, 156, 157, 158, 138, 139, 140, 141, 142, 143] (by decide +kernel) (by decide +kernel)
set_option maxRecDepth 20000 in
theorem gX6_week_X0_allGrudges : GoodIn wsX6_week (wsV RX6 246 RX0 yX0_allGrudges wsX0_allGrudges) := goodIn_app (goodIn_of _ (by decide +kernel)) ggX6_week_X0_allGrudges
theorem dX6_week_0 : decode cX6_week 0 = .ok (.iload_n 1, 1) := by decide +kernel
theorem dX6_week_1 : decode cX6_week 1 = .ok (.iconst 0, 1) := by decide +kernel
theorem dX6_week_2 : decode cX6_week 2 = .ok (.sipush 9999, 3) := by decide +kernel
theorem dX6_week_5 : decode cX6_week 5 = .ok (.invokestatic 73, 3) := by decide +kernel
theorem dX6_week_8 : decode cX6_week 8 = .ok (.ifCond .eq 22, 3) := by decide +kernel
theorem dX6_week_11 : decode cX6_week 11 = .ok (.iload_n 2, 1) := by decide +kernel
theorem dX6_week_12 : decode cX6_week 12 = .ok (.iconst 1, 1) := by decide +kernel
theorem dX6_week_13 : decode cX6_week 13 = .ok (.bipush 60, 2) := by decide +kernel
theorem dX6_week_15 : decode cX6_week 15 = .ok (.invokestatic 73, 3) := by decide +kernel
theorem dX6_week_18 : decode cX6_week 18 = .ok (.ifCond .eq 12, 3) := by decide +kernel
theorem dX6_week_21 : decode cX6_week 21 = .ok (.iload_n 3, 1) := by decide +kernel
theorem dX6_week_22 : decode cX6_week 22 = .ok (.iconst 0, 1) := by decide +kernel
theorem dX6_week_23 : decode cX6_week 23 = .ok (.iconst 1, 1) := by decide +kernel
theorem dX6_week_24 : decode cX6_week 24 = .ok (.invokestatic 73, 3) := by decide +kernel
theorem dX6_week_27 : decode cX6_week 27 = .ok (.ifCond .ne 5, 3) := by decide +kernel
theorem dX6_week_30 : decode cX6_week 30 = .ok (.iconst (-1), 1) := by decide +kernel
theorem dX6_week_31 : decode cX6_week 31 = .ok (.ireturn, 1) := by decide +kernel
theorem dX6_week_32 : decode cX6_week 32 = .ok (.aload_n 0, 1) := by decide +kernel
theorem dX6_week_33 : decode cX6_week 33 = .ok (.getfield 23, 3) := by decide +kernel
theorem dX6_week_36 : decode cX6_week 36 = .ok (.aload_n 0, 1) := by decide +kernel
theorem dX6_week_37 : decode cX6_week 37 = .ok (.getfield 19, 3) := by decide +kernel
theorem dX6_week_40 : decode cX6_week 40 = .ok (.invokevirtual 208, 3) := by decide +kernel
theorem dX6_week_43 : decode cX6_week 43 = .ok (.iconst 0, 1) := by decide +kernel
theorem dX6_week_44 : decode cX6_week 44 = .ok (.istore 4, 2) := by decide +kernel
theorem dX6_week_46 : decode cX6_week 46 = .ok (.iload 4, 2) := by decide +kernel
theorem dX6_week_48 : decode cX6_week 48 = .ok (.iload_n 2, 1) := by decide +kernel
theorem dX6_week_49 : decode cX6_week 49 = .ok (.if_icmp .ge 52, 3) := by decide +kernel
theorem dX6_week_52 : decode cX6_week 52 = .ok (.ldc2_w 234, 3) := by decide +kernel
theorem dX6_week_55 : decode cX6_week 55 = .ok (.iload_n 1, 1) := by decide +kernel
theorem dX6_week_56 : decode cX6_week 56 = .ok (.i2l, 1) := by decide +kernel
theorem dX6_week_57 : decode cX6_week 57 = .ok (.lmul, 1) := by decide +kernel
theorem dX6_week_58 : decode cX6_week 58 = .ok (.ldc2_w 236, 3) := by decide +kernel
theorem dX6_week_61 : decode cX6_week 61 = .ok (.iload 4, 2) := by decide +kernel
theorem dX6_week_63 : decode cX6_week 63 = .ok (.i2l, 1) := by decide +kernel
theorem dX6_week_64 : decode cX6_week 64 = .ok (.lmul, 1) := by decide +kernel
theorem dX6_week_65 : decode cX6_week 65 = .ok (.ladd, 1) := by decide +kernel
theorem dX6_week_66 : decode cX6_week 66 = .ok (.lconst 1, 1) := by decide +kernel
theorem dX6_week_67 : decode cX6_week 67 = .ok (.ladd, 1) := by decide +kernel
theorem dX6_week_68 : decode cX6_week 68 = .ok (.lstore 5, 2) := by decide +kernel
theorem dX6_week_70 : decode cX6_week 70 = .ok (.aload_n 0, 1) := by decide +kernel
theorem dX6_week_71 : decode cX6_week 71 = .ok (.lload 5, 2) := by decide +kernel
theorem dX6_week_73 : decode cX6_week 73 = .ok (.lload 5, 2) := by decide +kernel
theorem dX6_week_75 : decode cX6_week 75 = .ok (.lmul, 1) := by decide +kernel
theorem dX6_week_76 : decode cX6_week 76 = .ok (.ldc2_w 238, 3) := by decide +kernel
theorem dX6_week_79 : decode cX6_week 79 = .ok (.lrem, 1) := by decide +kernel
theorem dX6_week_80 : decode cX6_week 80 = .ok (.l2i, 1) := by decide +kernel
theorem dX6_week_81 : decode cX6_week 81 = .ok (.invokevirtual 240, 3) := by decide +kernel
theorem dX6_week_84 : decode cX6_week 84 = .ok (.aload_n 0, 1) := by decide +kernel
theorem dX6_week_85 : decode cX6_week 85 = .ok (.getfield 23, 3) := by decide +kernel
theorem dX6_week_88 : decode cX6_week 88 = .ok (.aload_n 0, 1) := by decide +kernel
theorem dX6_week_89 : decode cX6_week 89 = .ok (.getfield 55, 3) := by decide +kernel
theorem dX6_week_92 : decode cX6_week 92 = .ok (.invokevirtual 163, 3) := by decide +kernel
theorem dX6_week_95 : decode cX6_week 95 = .ok (.iinc 4 1, 3) := by decide +kernel
theorem dX6_week_98 : decode cX6_week 98 = .ok (.goto (-52), 3) := by decide +kernel
theorem dX6_week_101 : decode cX6_week 101 = .ok (.iload_n 3, 1) := by decide +kernel
theorem dX6_week_102 : decode cX6_week 102 = .ok (.ifCond .ne 21, 3) := by decide +kernel
theorem dX6_week_105 : decode cX6_week 105 = .ok (.aload_n 0, 1) := by decide +kernel
theorem dX6_week_106 : decode cX6_week 106 = .ok (.getfield 23, 3) := by decide +kernel
theorem dX6_week_109 : decode cX6_week 109 = .ok (.getfield 243, 3) := by decide +kernel
theorem dX6_week_112 : decode cX6_week 112 = .ok (.aload_n 0, 1) := by decide +kernel
theorem dX6_week_113 : decode cX6_week 113 = .ok (.getfield 19, 3) := by decide +kernel
theorem dX6_week_116 : decode cX6_week 116 = .ok (.getfield 243, 3) := by decide +kernel
theorem dX6_week_119 : decode cX6_week 119 = .ok (.isub, 1) := by decide +kernel
theorem dX6_week_120 : decode cX6_week 120 = .ok (.goto 14, 3) := by decide +kernel
theorem dX6_week_123 : decode cX6_week 123 = .ok (.aload_n 0, 1) := by decide +kernel
theorem dX6_week_124 : decode cX6_week 124 = .ok (.getfield 23, 3) := by decide +kernel
theorem dX6_week_127 : decode cX6_week 127 = .ok (.aload_n 0, 1) := by decide +kernel
theorem dX6_week_128 : decode cX6_week 128 = .ok (.getfield 55, 3) := by decide +kernel
theorem dX6_week_131 : decode cX6_week 131 = .ok (.invokevirtual 246, 3) := by decide +kernel
theorem dX6_week_134 : decode cX6_week 134 = .ok (.ireturn, 1) := by decide +kernel
set_option maxRecDepth 20000 in
theorem ggX6_keep_X1_push : GoodIn wsX6_keep wsX1_push := goodIn_r _ [7, 8, 9, 10, 11, 12, 6, 13, 14, 15, 16, 17, 18, 19, 20, 21, 22, 23, 24, 25, 26, 27, 28, 29, 30, 40, 41, 42, 43, 44, 45, 46, 47] (by decide +kernel) (by decide +kernel)
set_option maxRecDepth 20000 in
theorem gX6_keep_X1_push : GoodIn wsX6_keep (wsV RX6 141 RX1 yX1_push wsX1_push) := goodIn_app (goodIn_of _ (by decide +kernel)) ggX6_keep_X1_push
theorem dX6_keep_0 : decode cX6_keep 0 = .ok (.aload_n 0, 1) := by decide +kernel
theorem dX6_keep_1 : decode cX6_keep 1 = .ok (.getfield 35, 3) := by decide +kernel
theorem dX6_keep_4 : decode cX6_keep 4 = .ok (.getfield 170, 3) := by decide +kernel
theorem dX6_keep_7 : decode cX6_keep 7 = .ok (.iconst 2, 1) := by decide +kernel
theorem dX6_keep_8 : decode cX6_keep 8 = .ok (.if_icmp .lt 6, 3) := by decide +kernel
theorem dX6_keep_11 : decode cX6_keep 11 = .ok (.bipush (-3), 2) := by decide +kernel
theorem dX6_keep_13 : decode cX6_keep 13 = .ok (.ireturn, 1) := by decide +kernel
theorem dX6_keep_14 : decode cX6_keep 14 = .ok (.aload_n 0, 1) := by decide +kernel
theorem dX6_keep_15 : decode cX6_keep 15 = .ok (.getfield 35, 3) := by decide +kernel
theorem dX6_keep_18 : decode cX6_keep 18 = .ok (.aload_n 0, 1) := by decide +kernel
theorem dX6_keep_19 : decode cX6_keep 19 = .ok (.getfield 19, 3) := by decide +kernel
theorem dX6_keep_22 : decode cX6_keep 22 = .ok (.invokevirtual 141, 3) := by decide +kernel
theorem dX6_keep_25 : decode cX6_keep 25 = .ok (.aload_n 0, 1) := by decide +kernel
theorem dX6_keep_26 : decode cX6_keep 26 = .ok (.getfield 35, 3) := by decide +kernel
theorem dX6_keep_29 : decode cX6_keep 29 = .ok (.getfield 170, 3) := by decide +kernel
theorem dX6_keep_32 : decode cX6_keep 32 = .ok (.ireturn, 1) := by decide +kernel
set_option maxRecDepth 20000 in
theorem ggX6_back_X1_pop : GoodIn wsX6_back wsX1_pop := goodIn_r _ [8, 9, 10, 11, 12, 7, 13, 14, 15, 16, 17, 18, 19, 20, 21, 22, 23, 24, 25, 26, 27, 41, 42, 43, 44, 45, 46, 47, 48] (by decide +kernel) (by decide +kernel)
set_option maxRecDepth 20000 in
theorem gX6_back_X1_pop : GoodIn wsX6_back (wsV RX6 166 RX1 yX1_pop wsX1_pop) := goodIn_app (goodIn_of _ (by decide +kernel)) ggX6_back_X1_pop
set_option maxRecDepth 20000 in
theorem ggX6_back_X1_forgetAll : GoodIn wsX6_back wsX1_forgetAll := goodIn_r _ [31, 9, 41, 42] (by decide +kernel) (by decide +kernel)
set_option maxRecDepth 20000 in
theorem gX6_back_X1_forgetAll : GoodIn wsX6_back (wsV RX6 92 RX1 yX1_forgetAll wsX1_forgetAll) := goodIn_app (goodIn_of _ (by decide +kernel)) ggX6_back_X1_forgetAll
theorem dX6_back_0 : decode cX6_back 0 = .ok (.aload_n 0, 1) := by decide +kernel
theorem dX6_back_1 : decode cX6_back 1 = .ok (.getfield 35, 3) := by decide +kernel
theorem dX6_back_4 : decode cX6_back 4 = .ok (.aload_n 0, 1) := by decide +kernel
theorem dX6_back_5 : decode cX6_back 5 = .ok (.getfield 19, 3) := by decide +kernel
theorem dX6_back_8 : decode cX6_back 8 = .ok (.invokevirtual 166, 3) := by decide +kernel
theorem dX6_back_11 : decode cX6_back 11 = .ok (.ifCond .ne 6, 3) := by decide +kernel
theorem dX6_back_14 : decode cX6_back 14 = .ok (.bipush (-2), 2) := by decide +kernel
theorem dX6_back_16 : decode cX6_back 16 = .ok (.ireturn, 1) := by decide +kernel
theorem dX6_back_17 : decode cX6_back 17 = .ok (.aload_n 0, 1) := by decide +kernel
theorem dX6_back_18 : decode cX6_back 18 = .ok (.getfield 31, 3) := by decide +kernel
theorem dX6_back_21 : decode cX6_back 21 = .ok (.invokevirtual 92, 3) := by decide +kernel
theorem dX6_back_24 : decode cX6_back 24 = .ok (.aload_n 0, 1) := by decide +kernel
theorem dX6_back_25 : decode cX6_back 25 = .ok (.getfield 35, 3) := by decide +kernel
theorem dX6_back_28 : decode cX6_back 28 = .ok (.getfield 170, 3) := by decide +kernel
theorem dX6_back_31 : decode cX6_back 31 = .ok (.ireturn, 1) := by decide +kernel
theorem dX6_count_0 : decode cX6_count 0 = .ok (.iload_n 1, 1) := by decide +kernel
theorem dX6_count_1 : decode cX6_count 1 = .ok (.tableswitch 111 0 7 #[47, 55, 63, 71, 79, 87, 95, 103], 47) := by decide +kernel
theorem dX6_count_48 : decode cX6_count 48 = .ok (.aload_n 0, 1) := by decide +kernel
theorem dX6_count_49 : decode cX6_count 49 = .ok (.getfield 55, 3) := by decide +kernel
theorem dX6_count_52 : decode cX6_count 52 = .ok (.getfield 249, 3) := by decide +kernel
theorem dX6_count_55 : decode cX6_count 55 = .ok (.ireturn, 1) := by decide +kernel
theorem dX6_count_56 : decode cX6_count 56 = .ok (.aload_n 0, 1) := by decide +kernel
theorem dX6_count_57 : decode cX6_count 57 = .ok (.getfield 55, 3) := by decide +kernel
theorem dX6_count_60 : decode cX6_count 60 = .ok (.getfield 95, 3) := by decide +kernel
theorem dX6_count_63 : decode cX6_count 63 = .ok (.ireturn, 1) := by decide +kernel
theorem dX6_count_64 : decode cX6_count 64 = .ok (.aload_n 0, 1) := by decide +kernel
theorem dX6_count_65 : decode cX6_count 65 = .ok (.getfield 55, 3) := by decide +kernel
theorem dX6_count_68 : decode cX6_count 68 = .ok (.getfield 252, 3) := by decide +kernel
theorem dX6_count_71 : decode cX6_count 71 = .ok (.ireturn, 1) := by decide +kernel
theorem dX6_count_72 : decode cX6_count 72 = .ok (.aload_n 0, 1) := by decide +kernel
theorem dX6_count_73 : decode cX6_count 73 = .ok (.getfield 19, 3) := by decide +kernel
theorem dX6_count_76 : decode cX6_count 76 = .ok (.getfield 243, 3) := by decide +kernel
theorem dX6_count_79 : decode cX6_count 79 = .ok (.ireturn, 1) := by decide +kernel
theorem dX6_count_80 : decode cX6_count 80 = .ok (.aload_n 0, 1) := by decide +kernel
theorem dX6_count_81 : decode cX6_count 81 = .ok (.getfield 19, 3) := by decide +kernel
theorem dX6_count_84 : decode cX6_count 84 = .ok (.getfield 160, 3) := by decide +kernel
theorem dX6_count_87 : decode cX6_count 87 = .ok (.ireturn, 1) := by decide +kernel
theorem dX6_count_88 : decode cX6_count 88 = .ok (.aload_n 0, 1) := by decide +kernel
theorem dX6_count_89 : decode cX6_count 89 = .ok (.getfield 31, 3) := by decide +kernel
theorem dX6_count_92 : decode cX6_count 92 = .ok (.getfield 170, 3) := by decide +kernel
theorem dX6_count_95 : decode cX6_count 95 = .ok (.ireturn, 1) := by decide +kernel
theorem dX6_count_96 : decode cX6_count 96 = .ok (.aload_n 0, 1) := by decide +kernel
theorem dX6_count_97 : decode cX6_count 97 = .ok (.getfield 35, 3) := by decide +kernel
theorem dX6_count_100 : decode cX6_count 100 = .ok (.getfield 170, 3) := by decide +kernel
theorem dX6_count_103 : decode cX6_count 103 = .ok (.ireturn, 1) := by decide +kernel
theorem dX6_count_104 : decode cX6_count 104 = .ok (.aload_n 0, 1) := by decide +kernel
theorem dX6_count_105 : decode cX6_count 105 = .ok (.getfield 10, 3) := by decide +kernel
theorem dX6_count_108 : decode cX6_count 108 = .ok (.getfield 77, 3) := by decide +kernel
theorem dX6_count_111 : decode cX6_count 111 = .ok (.ireturn, 1) := by decide +kernel
theorem dX6_count_112 : decode cX6_count 112 = .ok (.iconst (-1), 1) := by decide +kernel
theorem dX6_count_113 : decode cX6_count 113 = .ok (.ireturn, 1) := by decide +kernel
theorem dX6_isRoom_0 : decode cX6_isRoom 0 = .ok (.iload_n 1, 1) := by decide +kernel
theorem dX6_isRoom_1 : decode cX6_isRoom 1 = .ok (.ifCond .lt 18, 3) := by decide +kernel
theorem dX6_isRoom_4 : decode cX6_isRoom 4 = .ok (.iload_n 1, 1) := by decide +kernel
theorem dX6_isRoom_5 : decode cX6_isRoom 5 = .ok (.aload_n 0, 1) := by decide +kernel
theorem dX6_isRoom_6 : decode cX6_isRoom 6 = .ok (.getfield 55, 3) := by decide +kernel
theorem dX6_isRoom_9 : decode cX6_isRoom 9 = .ok (.getfield 249, 3) := by decide +kernel
theorem dX6_isRoom_12 : decode cX6_isRoom 12 = .ok (.if_icmp .ge 7, 3) := by decide +kernel
theorem dX6_isRoom_15 : decode cX6_isRoom 15 = .ok (.iconst 1, 1) := by decide +kernel
theorem dX6_isRoom_16 : decode cX6_isRoom 16 = .ok (.goto 4, 3) := by decide +kernel
theorem dX6_isRoom_19 : decode cX6_isRoom 19 = .ok (.iconst 0, 1) := by decide +kernel
theorem dX6_isRoom_20 : decode cX6_isRoom 20 = .ok (.ireturn, 1) := by decide +kernel
theorem dX6_isDoor_0 : decode cX6_isDoor 0 = .ok (.iload_n 1, 1) := by decide +kernel
theorem dX6_isDoor_1 : decode cX6_isDoor 1 = .ok (.ifCond .lt 18, 3) := by decide +kernel
theorem dX6_isDoor_4 : decode cX6_isDoor 4 = .ok (.iload_n 1, 1) := by decide +kernel
theorem dX6_isDoor_5 : decode cX6_isDoor 5 = .ok (.aload_n 0, 1) := by decide +kernel
theorem dX6_isDoor_6 : decode cX6_isDoor 6 = .ok (.getfield 55, 3) := by decide +kernel
theorem dX6_isDoor_9 : decode cX6_isDoor 9 = .ok (.getfield 95, 3) := by decide +kernel
theorem dX6_isDoor_12 : decode cX6_isDoor 12 = .ok (.if_icmp .ge 7, 3) := by decide +kernel
theorem dX6_isDoor_15 : decode cX6_isDoor 15 = .ok (.iconst 1, 1) := by decide +kernel
theorem dX6_isDoor_16 : decode cX6_isDoor 16 = .ok (.goto 4, 3) := by decide +kernel
theorem dX6_isDoor_19 : decode cX6_isDoor 19 = .ok (.iconst 0, 1) := by decide +kernel
theorem dX6_isDoor_20 : decode cX6_isDoor 20 = .ok (.ireturn, 1) := by decide +kernel
theorem dX6_isLodger_0 : decode cX6_isLodger 0 = .ok (.iload_n 1, 1) := by decide +kernel
theorem dX6_isLodger_1 : decode cX6_isLodger 1 = .ok (.ifCond .lt 18, 3) := by decide +kernel
theorem dX6_isLodger_4 : decode cX6_isLodger 4 = .ok (.iload_n 1, 1) := by decide +kernel
theorem dX6_isLodger_5 : decode cX6_isLodger 5 = .ok (.aload_n 0, 1) := by decide +kernel
theorem dX6_isLodger_6 : decode cX6_isLodger 6 = .ok (.getfield 55, 3) := by decide +kernel
theorem dX6_isLodger_9 : decode cX6_isLodger 9 = .ok (.getfield 252, 3) := by decide +kernel
theorem dX6_isLodger_12 : decode cX6_isLodger 12 = .ok (.if_icmp .ge 7, 3) := by decide +kernel
theorem dX6_isLodger_15 : decode cX6_isLodger 15 = .ok (.iconst 1, 1) := by decide +kernel
theorem dX6_isLodger_16 : decode cX6_isLodger 16 = .ok (.goto 4, 3) := by decide +kernel
theorem dX6_isLodger_19 : decode cX6_isLodger 19 = .ok (.iconst 0, 1) := by decide +kernel
theorem dX6_isLodger_20 : decode cX6_isLodger 20 = .ok (.ireturn, 1) := by decide +kernel
set_option maxRecDepth 20000 in
theorem ggX6_isInTimeWith_X6_at : GoodIn wsX6_isInTimeWith wsX6_at := goodIn_r _ [7] (by decide +kernel) (by decide +kernel)
set_option maxRecDepth 20000 in
theorem gX6_isInTimeWith_X6_at : GoodIn wsX6_isInTimeWith (va_wsS RX6 106 yX6_at wsX6_at) := goodIn_app (goodIn_of _ (by decide +kernel)) ggX6_isInTimeWith_X6_at
set_option maxRecDepth 20000 in
theorem ggX6_isInTimeWith_X5_measure : GoodIn wsX6_isInTimeWith wsX5_measure := goodIn_r _ [12, 13, 14, 15, 16, 6, 17, 18, 19, 20, 21, 22, 23, 24, 25, 26, 27, 5, 7, 28, 29, 30, 31, 32, 33, 34, 35, 36, 37, 38, 39, 11, 40, 54, 55, 56, 57, 58, 59, 60, 61, 62, 63, 64, 65, 66, 67, 68, 75, 76, 69, 70, 71, 72, 73, 74] (by decide +kernel) (by decide +kernel)
set_option maxRecDepth 20000 in
theorem gX6_isInTimeWith_X5_measure : GoodIn wsX6_isInTimeWith (wsV RX6 176 RX5 yX5_measure wsX5_measure) := goodIn_app (goodIn_of _ (by decide +kernel)) ggX6_isInTimeWith_X5_measure
set_option maxRecDepth 20000 in
theorem ggX6_isInTimeWith_X5_minutesFrom : GoodIn wsX6_isInTimeWith wsX5_minutesFrom := goodIn_r _ [44, 14, 15, 5, 6, 7, 75, 76] (by decide +kernel) (by decide +kernel)
set_option maxRecDepth 20000 in
theorem gX6_isInTimeWith_X5_minutesFrom : GoodIn wsX6_isInTimeWith (wsV RX6 180 RX5 yX5_minutesFrom wsX5_minutesFrom) := goodIn_app (goodIn_of _ (by decide +kernel)) ggX6_isInTimeWith_X5_minutesFrom
theorem dX6_isInTimeWith_0 : decode cX6_isInTimeWith 0 = .ok (.aload_n 0, 1) := by decide +kernel
theorem dX6_isInTimeWith_1 : decode cX6_isInTimeWith 1 = .ok (.getfield 41, 3) := by decide +kernel
theorem dX6_isInTimeWith_4 : decode cX6_isInTimeWith 4 = .ok (.aload_n 0, 1) := by decide +kernel
theorem dX6_isInTimeWith_5 : decode cX6_isInTimeWith 5 = .ok (.getfield 55, 3) := by decide +kernel
theorem dX6_isInTimeWith_8 : decode cX6_isInTimeWith 8 = .ok (.aload_n 0, 1) := by decide +kernel
theorem dX6_isInTimeWith_9 : decode cX6_isInTimeWith 9 = .ok (.getfield 19, 3) := by decide +kernel
theorem dX6_isInTimeWith_12 : decode cX6_isInTimeWith 12 = .ok (.iload_n 2, 1) := by decide +kernel
theorem dX6_isInTimeWith_13 : decode cX6_isInTimeWith 13 = .ok (.aload_n 0, 1) := by decide +kernel
theorem dX6_isInTimeWith_14 : decode cX6_isInTimeWith 14 = .ok (.getfield 55, 3) := by decide +kernel
theorem dX6_isInTimeWith_17 : decode cX6_isInTimeWith 17 = .ok (.getfield 131, 3) := by decide +kernel
theorem dX6_isInTimeWith_20 : decode cX6_isInTimeWith 20 = .ok (.iload_n 2, 1) := by decide +kernel
theorem dX6_isInTimeWith_21 : decode cX6_isInTimeWith 21 = .ok (.invokestatic 106, 3) := by decide +kernel
theorem dX6_isInTimeWith_24 : decode cX6_isInTimeWith 24 = .ok (.iload_n 1, 1) := by decide +kernel
theorem dX6_isInTimeWith_25 : decode cX6_isInTimeWith 25 = .ok (.invokevirtual 176, 3) := by decide +kernel
theorem dX6_isInTimeWith_28 : decode cX6_isInTimeWith 28 = .ok (.aload_n 0, 1) := by decide +kernel
theorem dX6_isInTimeWith_29 : decode cX6_isInTimeWith 29 = .ok (.getfield 41, 3) := by decide +kernel
theorem dX6_isInTimeWith_32 : decode cX6_isInTimeWith 32 = .ok (.aload_n 0, 1) := by decide +kernel
theorem dX6_isInTimeWith_33 : decode cX6_isInTimeWith 33 = .ok (.getfield 19, 3) := by decide +kernel
theorem dX6_isInTimeWith_36 : decode cX6_isInTimeWith 36 = .ok (.getfield 125, 3) := by decide +kernel
theorem dX6_isInTimeWith_39 : decode cX6_isInTimeWith 39 = .ok (.iload_n 2, 1) := by decide +kernel
theorem dX6_isInTimeWith_40 : decode cX6_isInTimeWith 40 = .ok (.invokestatic 106, 3) := by decide +kernel
theorem dX6_isInTimeWith_43 : decode cX6_isInTimeWith 43 = .ok (.invokevirtual 180, 3) := by decide +kernel
theorem dX6_isInTimeWith_46 : decode cX6_isInTimeWith 46 = .ok (.istore 4, 2) := by decide +kernel
theorem dX6_isInTimeWith_48 : decode cX6_isInTimeWith 48 = .ok (.iload 4, 2) := by decide +kernel
theorem dX6_isInTimeWith_50 : decode cX6_isInTimeWith 50 = .ok (.ifCond .lt 13, 3) := by decide +kernel
theorem dX6_isInTimeWith_53 : decode cX6_isInTimeWith 53 = .ok (.iload 4, 2) := by decide +kernel
theorem dX6_isInTimeWith_55 : decode cX6_isInTimeWith 55 = .ok (.iload_n 3, 1) := by decide +kernel
theorem dX6_isInTimeWith_56 : decode cX6_isInTimeWith 56 = .ok (.if_icmp .gt 7, 3) := by decide +kernel
theorem dX6_isInTimeWith_59 : decode cX6_isInTimeWith 59 = .ok (.iconst 1, 1) := by decide +kernel
theorem dX6_isInTimeWith_60 : decode cX6_isInTimeWith 60 = .ok (.goto 4, 3) := by decide +kernel
theorem dX6_isInTimeWith_63 : decode cX6_isInTimeWith 63 = .ok (.iconst 0, 1) := by decide +kernel
theorem dX6_isInTimeWith_64 : decode cX6_isInTimeWith 64 = .ok (.ireturn, 1) := by decide +kernel
set_option maxRecDepth 20000 in
theorem ggX6_grudgeBehindWith_X0_become : GoodIn wsX6_grudgeBehindWith wsX0_become := goodIn_r _ [8, 9, 10, 11, 12, 13, 14, 15, 16, 89, 90, 91, 92, 93, 94] (by decide +kernel) (by decide +kernel)
set_option maxRecDepth 20000 in
theorem gX6_grudgeBehindWith_X0_become : GoodIn wsX6_grudgeBehindWith (wsV RX6 208 RX0 yX0_become wsX0_become) := goodIn_app (goodIn_of _ (by decide +kernel)) ggX6_grudgeBehindWith_X0_become
set_option maxRecDepth 20000 in
theorem ggX6_grudgeBehindWith_X6_holds : GoodIn wsX6_grudgeBehindWith wsX6_holds := goodIn_r _ [19] (by decide +kernel) (by decide +kernel)
set_option maxRecDepth 20000 in
theorem gX6_grudgeBehindWith_X6_holds : GoodIn wsX6_grudgeBehindWith (va_wsS RX6 215 yX6_holds wsX6_holds) := goodIn_app (goodIn_of _ (by decide +kernel)) ggX6_grudgeBehindWith_X6_holds
set_option maxRecDepth 20000 in
theorem ggX6_grudgeBehindWith_X6_put : GoodIn wsX6_grudgeBehindWith wsX6_put := goodIn_r _ [22] (by decide +kernel) (by decide +kernel)
set_option maxRecDepth 20000 in
theorem gX6_grudgeBehindWith_X6_put : GoodIn wsX6_grudgeBehindWith (va_wsS RX6 152 yX6_put wsX6_put) := goodIn_app (goodIn_of _ (by decide +kernel)) ggX6_grudgeBehindWith_X6_put
set_option maxRecDepth 20000 in
theorem ggX6_grudgeBehindWith_X0_sleepAgainstOne : GoodIn wsX6_grudgeBehindWith wsX0_sleepAgainstOne := goodIn_r _ [26, 27, 28, 29, 7, 30, 31, 32, 15, 33, 34, 35, 36, 37, 38, 39, 10, 40, 41, 42, 43, 9, 21, 22, 44, 45, 46, 47, 48, 49, 50, 51, 52, 53, 54, 55, 56, 57, 58, 59, 60, 61, 62, 63, 89, 90, 91, 92, 93, 94, 74, 75, 76, 77, 78, 79, 80, 81, 82, 83, 84, 85, 86, 87, 88] (by decide +kernel) (by decide +kernel)
set_option maxRecDepth 20000 in
theorem gX6_grudgeBehindWith_X0_sleepAgainstOne : GoodIn wsX6_grudgeBehindWith (wsV RX6 211 RX0 yX0_sleepAgainstOne wsX0_sleepAgainstOne) := goodIn_app (goodIn_of _ (by decide +kernel)) ggX6_grudgeBehindWith_X0_sleepAgainstOne
set_option maxRecDepth 20000 in
theorem ggX6_grudgeBehindWith_X0_grudgeOf : GoodIn wsX6_grudgeBehindWith wsX0_grudgeOf := goodIn_r _ [43, 9, 34, 15, 35, 89, 90, 91, 92, 93, 94] (by decide +kernel) (by decide +kernel)
set_option maxRecDepth 20000 in
theorem gX6_grudgeBehindWith_X0_grudgeOf : GoodIn wsX6_grudgeBehindWith (wsV RX6 134 RX0 yX0_grudgeOf wsX0_grudgeOf) := goodIn_app (goodIn_of _ (by decide +kernel)) ggX6_grudgeBehindWith_X0_grudgeOf
theorem dX6_grudgeBehindWith_0 : decode cX6_grudgeBehindWith 0 = .ok (.aload_n 0, 1) := by decide +kernel
theorem dX6_grudgeBehindWith_1 : decode cX6_grudgeBehindWith 1 = .ok (.getfield 23, 3) := by decide +kernel
theorem dX6_grudgeBehindWith_4 : decode cX6_grudgeBehindWith 4 = .ok (.aload_n 0, 1) := by decide +kernel
theorem dX6_grudgeBehindWith_5 : decode cX6_grudgeBehindWith 5 = .ok (.getfield 19, 3) := by decide +kernel
theorem dX6_grudgeBehindWith_8 : decode cX6_grudgeBehindWith 8 = .ok (.invokevirtual 208, 3) := by decide +kernel
theorem dX6_grudgeBehindWith_11 : decode cX6_grudgeBehindWith 11 = .ok (.iconst 0, 1) := by decide +kernel
theorem dX6_grudgeBehindWith_12 : decode cX6_grudgeBehindWith 12 = .ok (.istore 5, 2) := by decide +kernel
theorem dX6_grudgeBehindWith_14 : decode cX6_grudgeBehindWith 14 = .ok (.iload 5, 2) := by decide +kernel
theorem dX6_grudgeBehindWith_16 : decode cX6_grudgeBehindWith 16 = .ok (.aload_n 0, 1) := by decide +kernel
theorem dX6_grudgeBehindWith_17 : decode cX6_grudgeBehindWith 17 = .ok (.getfield 55, 3) := by decide +kernel
theorem dX6_grudgeBehindWith_20 : decode cX6_grudgeBehindWith 20 = .ok (.getfield 95, 3) := by decide +kernel
theorem dX6_grudgeBehindWith_23 : decode cX6_grudgeBehindWith 23 = .ok (.if_icmp .ge 33, 3) := by decide +kernel
theorem dX6_grudgeBehindWith_26 : decode cX6_grudgeBehindWith 26 = .ok (.iload_n 1, 1) := by decide +kernel
theorem dX6_grudgeBehindWith_27 : decode cX6_grudgeBehindWith 27 = .ok (.iload 5, 2) := by decide +kernel
theorem dX6_grudgeBehindWith_29 : decode cX6_grudgeBehindWith 29 = .ok (.invokestatic 215, 3) := by decide +kernel
theorem dX6_grudgeBehindWith_32 : decode cX6_grudgeBehindWith 32 = .ok (.ifCond .eq 18, 3) := by decide +kernel
theorem dX6_grudgeBehindWith_35 : decode cX6_grudgeBehindWith 35 = .ok (.aload_n 0, 1) := by decide +kernel
theorem dX6_grudgeBehindWith_36 : decode cX6_grudgeBehindWith 36 = .ok (.getfield 23, 3) := by decide +kernel
theorem dX6_grudgeBehindWith_39 : decode cX6_grudgeBehindWith 39 = .ok (.getfield 116, 3) := by decide +kernel
theorem dX6_grudgeBehindWith_42 : decode cX6_grudgeBehindWith 42 = .ok (.iload 5, 2) := by decide +kernel
theorem dX6_grudgeBehindWith_44 : decode cX6_grudgeBehindWith 44 = .ok (.iload_n 2, 1) := by decide +kernel
theorem dX6_grudgeBehindWith_45 : decode cX6_grudgeBehindWith 45 = .ok (.iconst 1, 1) := by decide +kernel
theorem dX6_grudgeBehindWith_46 : decode cX6_grudgeBehindWith 46 = .ok (.iadd, 1) := by decide +kernel
theorem dX6_grudgeBehindWith_47 : decode cX6_grudgeBehindWith 47 = .ok (.invokestatic 152, 3) := by decide +kernel
theorem dX6_grudgeBehindWith_50 : decode cX6_grudgeBehindWith 50 = .ok (.iinc 5 1, 3) := by decide +kernel
theorem dX6_grudgeBehindWith_53 : decode cX6_grudgeBehindWith 53 = .ok (.goto (-39), 3) := by decide +kernel
theorem dX6_grudgeBehindWith_56 : decode cX6_grudgeBehindWith 56 = .ok (.aload_n 0, 1) := by decide +kernel
theorem dX6_grudgeBehindWith_57 : decode cX6_grudgeBehindWith 57 = .ok (.getfield 23, 3) := by decide +kernel
theorem dX6_grudgeBehindWith_60 : decode cX6_grudgeBehindWith 60 = .ok (.aload_n 0, 1) := by decide +kernel
theorem dX6_grudgeBehindWith_61 : decode cX6_grudgeBehindWith 61 = .ok (.getfield 55, 3) := by decide +kernel
theorem dX6_grudgeBehindWith_64 : decode cX6_grudgeBehindWith 64 = .ok (.iload_n 2, 1) := by decide +kernel
theorem dX6_grudgeBehindWith_65 : decode cX6_grudgeBehindWith 65 = .ok (.iload 4, 2) := by decide +kernel
theorem dX6_grudgeBehindWith_67 : decode cX6_grudgeBehindWith 67 = .ok (.invokevirtual 211, 3) := by decide +kernel
theorem dX6_grudgeBehindWith_70 : decode cX6_grudgeBehindWith 70 = .ok (.aload_n 0, 1) := by decide +kernel
theorem dX6_grudgeBehindWith_71 : decode cX6_grudgeBehindWith 71 = .ok (.getfield 23, 3) := by decide +kernel
theorem dX6_grudgeBehindWith_74 : decode cX6_grudgeBehindWith 74 = .ok (.iload_n 3, 1) := by decide +kernel
theorem dX6_grudgeBehindWith_75 : decode cX6_grudgeBehindWith 75 = .ok (.iload 4, 2) := by decide +kernel
theorem dX6_grudgeBehindWith_77 : decode cX6_grudgeBehindWith 77 = .ok (.invokevirtual 134, 3) := by decide +kernel
theorem dX6_grudgeBehindWith_80 : decode cX6_grudgeBehindWith 80 = .ok (.ireturn, 1) := by decide +kernel
set_option maxRecDepth 20000 in
theorem ggX6_grudgeAgainstNew_X0_grudgesOfDoor : GoodIn wsX6_grudgeAgainstNew wsX0_grudgesOfDoor := goodIn_r _ [7, 8, 9, 10, 6, 11, 12, 13, 14, 15, 25, 26, 27, 28, 29, 30, 31, 32, 33, 34, 35, 36, 37, 38, 39, 40, 41, 42, 43, 44, 45] (by decide +kernel) (by decide +kernel)
set_option maxRecDepth 20000 in
theorem gX6_grudgeAgainstNew_X0_grudgesOfDoor : GoodIn wsX6_grudgeAgainstNew (wsV RX6 255 RX0 yX0_grudgesOfDoor wsX0_grudgesOfDoor) := goodIn_app (goodIn_of _ (by decide +kernel)) ggX6_grudgeAgainstNew_X0_grudgesOfDoor
theorem dX6_grudgeAgainstNew_0 : decode cX6_grudgeAgainstNew 0 = .ok (.aload_n 0, 1) := by decide +kernel
theorem dX6_grudgeAgainstNew_1 : decode cX6_grudgeAgainstNew 1 = .ok (.getfield 55, 3) := by decide +kernel
theorem dX6_grudgeAgainstNew_4 : decode cX6_grudgeAgainstNew 4 = .ok (.getfield 252, 3) := by decide +kernel
theorem dX6_grudgeAgainstNew_7 : decode cX6_grudgeAgainstNew 7 = .ok (.ifCond .le 26, 3) := by decide +kernel
theorem dX6_grudgeAgainstNew_10 : decode cX6_grudgeAgainstNew 10 = .ok (.aload_n 0, 1) := by decide +kernel
theorem dX6_grudgeAgainstNew_11 : decode cX6_grudgeAgainstNew 11 = .ok (.getfield 19, 3) := by decide +kernel
theorem dX6_grudgeAgainstNew_14 : decode cX6_grudgeAgainstNew 14 = .ok (.aload_n 0, 1) := by decide +kernel
theorem dX6_grudgeAgainstNew_15 : decode cX6_grudgeAgainstNew 15 = .ok (.getfield 55, 3) := by decide +kernel
theorem dX6_grudgeAgainstNew_18 : decode cX6_grudgeAgainstNew 18 = .ok (.iload_n 1, 1) := by decide +kernel
theorem dX6_grudgeAgainstNew_19 : decode cX6_grudgeAgainstNew 19 = .ok (.invokevirtual 255, 3) := by decide +kernel
theorem dX6_grudgeAgainstNew_22 : decode cX6_grudgeAgainstNew 22 = .ok (.aload_n 0, 1) := by decide +kernel
theorem dX6_grudgeAgainstNew_23 : decode cX6_grudgeAgainstNew 23 = .ok (.getfield 55, 3) := by decide +kernel
theorem dX6_grudgeAgainstNew_26 : decode cX6_grudgeAgainstNew 26 = .ok (.getfield 252, 3) := by decide +kernel
theorem dX6_grudgeAgainstNew_29 : decode cX6_grudgeAgainstNew 29 = .ok (.idiv, 1) := by decide +kernel
theorem dX6_grudgeAgainstNew_30 : decode cX6_grudgeAgainstNew 30 = .ok (.goto 4, 3) := by decide +kernel
theorem dX6_grudgeAgainstNew_33 : decode cX6_grudgeAgainstNew 33 = .ok (.iconst 0, 1) := by decide +kernel
theorem dX6_grudgeAgainstNew_34 : decode cX6_grudgeAgainstNew 34 = .ok (.ireturn, 1) := by decide +kernel
set_option maxRecDepth 20000 in
theorem ggX6_goThereAndBack_X6_at : GoodIn wsX6_goThereAndBack wsX6_at := goodIn_r _ [6] (by decide +kernel) (by decide +kernel)
set_option maxRecDepth 20000 in
theorem gX6_goThereAndBack_X6_at : GoodIn wsX6_goThereAndBack (va_wsS RX6 106 yX6_at wsX6_at) := goodIn_app (goodIn_of _ (by decide +kernel)) ggX6_goThereAndBack_X6_at
set_option maxRecDepth 20000 in
theorem ggX6_goThereAndBack_X6_goTo : GoodIn wsX6_goThereAndBack wsX6_goTo := goodIn_r _ [10, 11, 1, 2, 12, 13, 14, 15, 16, 17, 18, 19, 20, 5, 21, 22, 23, 24, 25, 26, 27, 28, 29, 30, 31, 4, 6, 32, 33, 34, 35, 36, 37, 38, 39, 40, 41, 42, 43, 44, 3, 45, 46, 47, 48, 49, 50, 51, 52, 53, 54, 55, 56, 57, 58, 59, 60, 61, 62, 63, 64, 65, 66, 67, 68, 69, 70, 71, 72, 73, 74, 75, 76, 77, 78, 79, 80, 81, 82, 83, 84, 85, 86, 87, 88, 89, 90, 91, 92, 93, 94, 95, 96, 97, 113, 114, 115, 116, 117, 118, 98, 99, 100, 101, 102, 103, 104, 105, 106, 107, 108, 109, 110, 111, 112, 119, 120] (by decide +kernel) (by decide +kernel)
set_option maxRecDepth 20000 in
theorem gX6_goThereAndBack_X6_goTo : GoodIn wsX6_goThereAndBack (wsV RX6 258 RX6 yX6_goTo wsX6_goTo) := goodIn_app (goodIn_of _ (by decide +kernel)) ggX6_goThereAndBack_X6_goTo
theorem dX6_goThereAndBack_0 : decode cX6_goThereAndBack 0 = .ok (.aload_n 0, 1) := by decide +kernel
theorem dX6_goThereAndBack_1 : decode cX6_goThereAndBack 1 = .ok (.getfield 55, 3) := by decide +kernel
theorem dX6_goThereAndBack_4 : decode cX6_goThereAndBack 4 = .ok (.getfield 252, 3) := by decide +kernel
theorem dX6_goThereAndBack_7 : decode cX6_goThereAndBack 7 = .ok (.iconst 1, 1) := by decide +kernel
theorem dX6_goThereAndBack_8 : decode cX6_goThereAndBack 8 = .ok (.if_icmp .ge 4, 3) := by decide +kernel
theorem dX6_goThereAndBack_11 : decode cX6_goThereAndBack 11 = .ok (.return_, 1) := by decide +kernel
theorem dX6_goThereAndBack_12 : decode cX6_goThereAndBack 12 = .ok (.iload_n 1, 1) := by decide +kernel
theorem dX6_goThereAndBack_13 : decode cX6_goThereAndBack 13 = .ok (.aload_n 0, 1) := by decide +kernel
theorem dX6_goThereAndBack_14 : decode cX6_goThereAndBack 14 = .ok (.getfield 55, 3) := by decide +kernel
theorem dX6_goThereAndBack_17 : decode cX6_goThereAndBack 17 = .ok (.getfield 252, 3) := by decide +kernel
theorem dX6_goThereAndBack_20 : decode cX6_goThereAndBack 20 = .ok (.irem, 1) := by decide +kernel
theorem dX6_goThereAndBack_21 : decode cX6_goThereAndBack 21 = .ok (.istore_n 2, 1) := by decide +kernel
theorem dX6_goThereAndBack_22 : decode cX6_goThereAndBack 22 = .ok (.iload_n 1, 1) := by decide +kernel
theorem dX6_goThereAndBack_23 : decode cX6_goThereAndBack 23 = .ok (.bipush 8, 2) := by decide +kernel
theorem dX6_goThereAndBack_25 : decode cX6_goThereAndBack 25 = .ok (.idiv, 1) := by decide +kernel
theorem dX6_goThereAndBack_26 : decode cX6_goThereAndBack 26 = .ok (.iconst 2, 1) := by decide +kernel
theorem dX6_goThereAndBack_27 : decode cX6_goThereAndBack 27 = .ok (.irem, 1) := by decide +kernel
theorem dX6_goThereAndBack_28 : decode cX6_goThereAndBack 28 = .ok (.iconst 1, 1) := by decide +kernel
theorem dX6_goThereAndBack_29 : decode cX6_goThereAndBack 29 = .ok (.if_icmp .ne 7, 3) := by decide +kernel
theorem dX6_goThereAndBack_32 : decode cX6_goThereAndBack 32 = .ok (.iconst 1, 1) := by decide +kernel
theorem dX6_goThereAndBack_33 : decode cX6_goThereAndBack 33 = .ok (.goto 4, 3) := by decide +kernel
theorem dX6_goThereAndBack_36 : decode cX6_goThereAndBack 36 = .ok (.iconst 0, 1) := by decide +kernel
theorem dX6_goThereAndBack_37 : decode cX6_goThereAndBack 37 = .ok (.istore_n 3, 1) := by decide +kernel
theorem dX6_goThereAndBack_38 : decode cX6_goThereAndBack 38 = .ok (.aload_n 0, 1) := by decide +kernel
theorem dX6_goThereAndBack_39 : decode cX6_goThereAndBack 39 = .ok (.getfield 23, 3) := by decide +kernel
theorem dX6_goThereAndBack_42 : decode cX6_goThereAndBack 42 = .ok (.getfield 125, 3) := by decide +kernel
theorem dX6_goThereAndBack_45 : decode cX6_goThereAndBack 45 = .ok (.iload_n 2, 1) := by decide +kernel
theorem dX6_goThereAndBack_46 : decode cX6_goThereAndBack 46 = .ok (.invokestatic 106, 3) := by decide +kernel
theorem dX6_goThereAndBack_49 : decode cX6_goThereAndBack 49 = .ok (.istore 4, 2) := by decide +kernel
theorem dX6_goThereAndBack_51 : decode cX6_goThereAndBack 51 = .ok (.aload_n 0, 1) := by decide +kernel
theorem dX6_goThereAndBack_52 : decode cX6_goThereAndBack 52 = .ok (.iload_n 2, 1) := by decide +kernel
theorem dX6_goThereAndBack_53 : decode cX6_goThereAndBack 53 = .ok (.aload_n 0, 1) := by decide +kernel
theorem dX6_goThereAndBack_54 : decode cX6_goThereAndBack 54 = .ok (.getfield 55, 3) := by decide +kernel
theorem dX6_goThereAndBack_57 : decode cX6_goThereAndBack 57 = .ok (.getfield 131, 3) := by decide +kernel
theorem dX6_goThereAndBack_60 : decode cX6_goThereAndBack 60 = .ok (.iload_n 2, 1) := by decide +kernel
theorem dX6_goThereAndBack_61 : decode cX6_goThereAndBack 61 = .ok (.invokestatic 106, 3) := by decide +kernel
theorem dX6_goThereAndBack_64 : decode cX6_goThereAndBack 64 = .ok (.iload_n 3, 1) := by decide +kernel
theorem dX6_goThereAndBack_65 : decode cX6_goThereAndBack 65 = .ok (.invokevirtual 258, 3) := by decide +kernel
theorem dX6_goThereAndBack_68 : decode cX6_goThereAndBack 68 = .ok (.aload_n 0, 1) := by decide +kernel
theorem dX6_goThereAndBack_69 : decode cX6_goThereAndBack 69 = .ok (.iload_n 2, 1) := by decide +kernel
theorem dX6_goThereAndBack_70 : decode cX6_goThereAndBack 70 = .ok (.iload 4, 2) := by decide +kernel
theorem dX6_goThereAndBack_72 : decode cX6_goThereAndBack 72 = .ok (.iload_n 3, 1) := by decide +kernel
theorem dX6_goThereAndBack_73 : decode cX6_goThereAndBack 73 = .ok (.invokevirtual 258, 3) := by decide +kernel
theorem dX6_goThereAndBack_76 : decode cX6_goThereAndBack 76 = .ok (.return_, 1) := by decide +kernel
set_option maxRecDepth 20000 in
theorem ggX6_goTo_X5_measure : GoodIn wsX6_goTo wsX5_measure := goodIn_r _ [8, 9, 10, 11, 12, 13, 14, 15, 16, 17, 18, 19, 20, 21, 22, 23, 24, 25, 26, 27, 28, 29, 30, 31, 32, 33, 34, 35, 36, 37, 38, 7, 39, 100, 101, 102, 103, 104, 105, 106, 107, 108, 109, 110, 111, 112, 113, 114, 115, 116, 94, 95, 96, 97, 98, 99] (by decide +kernel) (by decide +kernel)
set_option maxRecDepth 20000 in
theorem gX6_goTo_X5_measure : GoodIn wsX6_goTo (wsV RX6 176 RX5 yX5_measure wsX5_measure) := goodIn_app (goodIn_of _ (by decide +kernel)) ggX6_goTo_X5_measure
set_option maxRecDepth 20000 in
theorem ggX6_goTo_X6_at : GoodIn wsX6_goTo wsX6_at := goodIn_r _ [26] (by decide +kernel) (by decide +kernel)
set_option maxRecDepth 20000 in
theorem gX6_goTo_X6_at : GoodIn wsX6_goTo (va_wsS RX6 106 yX6_at wsX6_at) := goodIn_app (goodIn_of _ (by decide +kernel)) ggX6_goTo_X6_at
set_option maxRecDepth 20000 in
theorem ggX6_goTo_X5_lowestDoorFrom : GoodIn wsX6_goTo wsX5_lowestDoorFrom := goodIn_r _ [44, 9, 10, 45, 46, 47, 7, 48, 11, 25, 13, 26, 49, 50, 51, 52, 53, 54, 55, 100, 101, 102, 103, 104, 105, 106, 107, 108, 109, 110, 111, 112, 113, 114, 115, 116] (by decide +kernel) (by decide +kernel)
set_option maxRecDepth 20000 in
theorem gX6_goTo_X5_lowestDoorFrom : GoodIn wsX6_goTo (wsV RX6 184 RX5 yX5_lowestDoorFrom wsX5_lowestDoorFrom) := goodIn_app (goodIn_of _ (by decide +kernel)) ggX6_goTo_X5_lowestDoorFrom
set_option maxRecDepth 20000 in
theorem ggX6_goTo_X0_passThrough : GoodIn wsX6_goTo wsX0_passThrough := goodIn_r _ [59, 60, 61, 62, 16, 17, 18, 19, 20, 21, 22, 23, 24, 25, 13, 26, 27, 28, 29, 30, 31, 63, 50, 51, 52, 53, 54, 55, 32, 33, 64, 65, 66, 67, 68, 69, 70, 71, 72, 73, 74, 75, 76, 77, 78, 79, 80, 81, 82, 83, 84, 94, 95, 96, 97, 98, 99, 100, 101, 102, 103, 104, 105, 106, 107, 108, 109, 110, 111, 112, 113, 114] (by decide +kernel) (by decide +kernel)
set_option maxRecDepth 20000 in
theorem gX6_goTo_X0_passThrough : GoodIn wsX6_goTo (wsV RX6 145 RX0 yX0_passThrough wsX0_passThrough) := goodIn_app (goodIn_of _ (by decide +kernel)) ggX6_goTo_X0_passThrough
theorem dX6_goTo_0 : decode cX6_goTo 0 = .ok (.iconst 0, 1) := by decide +kernel
theorem dX6_goTo_1 : decode cX6_goTo 1 = .ok (.istore 4, 2) := by decide +kernel
theorem dX6_goTo_3 : decode cX6_goTo 3 = .ok (.iload 4, 2) := by decide +kernel
theorem dX6_goTo_5 : decode cX6_goTo 5 = .ok (.bipush 6, 2) := by decide +kernel
theorem dX6_goTo_7 : decode cX6_goTo 7 = .ok (.if_icmp .ge 73, 3) := by decide +kernel
theorem dX6_goTo_10 : decode cX6_goTo 10 = .ok (.aload_n 0, 1) := by decide +kernel
theorem dX6_goTo_11 : decode cX6_goTo 11 = .ok (.getfield 41, 3) := by decide +kernel
theorem dX6_goTo_14 : decode cX6_goTo 14 = .ok (.aload_n 0, 1) := by decide +kernel
theorem dX6_goTo_15 : decode cX6_goTo 15 = .ok (.getfield 55, 3) := by decide +kernel
theorem dX6_goTo_18 : decode cX6_goTo 18 = .ok (.aload_n 0, 1) := by decide +kernel
theorem dX6_goTo_19 : decode cX6_goTo 19 = .ok (.getfield 23, 3) := by decide +kernel
theorem dX6_goTo_22 : decode cX6_goTo 22 = .ok (.iload_n 1, 1) := by decide +kernel
theorem dX6_goTo_23 : decode cX6_goTo 23 = .ok (.iload_n 2, 1) := by decide +kernel
theorem dX6_goTo_24 : decode cX6_goTo 24 = .ok (.iconst 0, 1) := by decide +kernel
theorem dX6_goTo_25 : decode cX6_goTo 25 = .ok (.invokevirtual 176, 3) := by decide +kernel
theorem dX6_goTo_28 : decode cX6_goTo 28 = .ok (.aload_n 0, 1) := by decide +kernel
theorem dX6_goTo_29 : decode cX6_goTo 29 = .ok (.getfield 41, 3) := by decide +kernel
theorem dX6_goTo_32 : decode cX6_goTo 32 = .ok (.aload_n 0, 1) := by decide +kernel
theorem dX6_goTo_33 : decode cX6_goTo 33 = .ok (.getfield 55, 3) := by decide +kernel
theorem dX6_goTo_36 : decode cX6_goTo 36 = .ok (.aload_n 0, 1) := by decide +kernel
theorem dX6_goTo_37 : decode cX6_goTo 37 = .ok (.getfield 23, 3) := by decide +kernel
theorem dX6_goTo_40 : decode cX6_goTo 40 = .ok (.getfield 125, 3) := by decide +kernel
theorem dX6_goTo_43 : decode cX6_goTo 43 = .ok (.iload_n 1, 1) := by decide +kernel
theorem dX6_goTo_44 : decode cX6_goTo 44 = .ok (.invokestatic 106, 3) := by decide +kernel
theorem dX6_goTo_47 : decode cX6_goTo 47 = .ok (.invokevirtual 184, 3) := by decide +kernel
theorem dX6_goTo_50 : decode cX6_goTo 50 = .ok (.istore 5, 2) := by decide +kernel
theorem dX6_goTo_52 : decode cX6_goTo 52 = .ok (.iload 5, 2) := by decide +kernel
theorem dX6_goTo_54 : decode cX6_goTo 54 = .ok (.ifCond .ge 4, 3) := by decide +kernel
theorem dX6_goTo_57 : decode cX6_goTo 57 = .ok (.return_, 1) := by decide +kernel
theorem dX6_goTo_58 : decode cX6_goTo 58 = .ok (.aload_n 0, 1) := by decide +kernel
theorem dX6_goTo_59 : decode cX6_goTo 59 = .ok (.getfield 23, 3) := by decide +kernel
theorem dX6_goTo_62 : decode cX6_goTo 62 = .ok (.aload_n 0, 1) := by decide +kernel
theorem dX6_goTo_63 : decode cX6_goTo 63 = .ok (.getfield 55, 3) := by decide +kernel
theorem dX6_goTo_66 : decode cX6_goTo 66 = .ok (.iload_n 1, 1) := by decide +kernel
theorem dX6_goTo_67 : decode cX6_goTo 67 = .ok (.iload 5, 2) := by decide +kernel
theorem dX6_goTo_69 : decode cX6_goTo 69 = .ok (.iload_n 3, 1) := by decide +kernel
theorem dX6_goTo_70 : decode cX6_goTo 70 = .ok (.invokevirtual 145, 3) := by decide +kernel
theorem dX6_goTo_73 : decode cX6_goTo 73 = .ok (.pop, 1) := by decide +kernel
theorem dX6_goTo_74 : decode cX6_goTo 74 = .ok (.iinc 4 1, 3) := by decide +kernel
theorem dX6_goTo_77 : decode cX6_goTo 77 = .ok (.goto (-74), 3) := by decide +kernel
theorem dX6_goTo_80 : decode cX6_goTo 80 = .ok (.return_, 1) := by decide +kernel
theorem dX6_within_0 : decode cX6_within 0 = .ok (.iload_n 0, 1) := by decide +kernel
theorem dX6_within_1 : decode cX6_within 1 = .ok (.iload_n 1, 1) := by decide +kernel
theorem dX6_within_2 : decode cX6_within 2 = .ok (.if_icmp .lt 12, 3) := by decide +kernel
theorem dX6_within_5 : decode cX6_within 5 = .ok (.iload_n 0, 1) := by decide +kernel
theorem dX6_within_6 : decode cX6_within 6 = .ok (.iload_n 2, 1) := by decide +kernel
theorem dX6_within_7 : decode cX6_within 7 = .ok (.if_icmp .gt 7, 3) := by decide +kernel
theorem dX6_within_10 : decode cX6_within 10 = .ok (.iconst 1, 1) := by decide +kernel
theorem dX6_within_11 : decode cX6_within 11 = .ok (.goto 4, 3) := by decide +kernel
theorem dX6_within_14 : decode cX6_within 14 = .ok (.iconst 0, 1) := by decide +kernel
theorem dX6_within_15 : decode cX6_within 15 = .ok (.ireturn, 1) := by decide +kernel
theorem dX6_holds_0 : decode cX6_holds 0 = .ok (.iload_n 0, 1) := by decide +kernel
theorem dX6_holds_1 : decode cX6_holds 1 = .ok (.iload_n 1, 1) := by decide +kernel
theorem dX6_holds_2 : decode cX6_holds 2 = .ok (.ishr, 1) := by decide +kernel
theorem dX6_holds_3 : decode cX6_holds 3 = .ok (.iconst 1, 1) := by decide +kernel
theorem dX6_holds_4 : decode cX6_holds 4 = .ok (.iand, 1) := by decide +kernel
theorem dX6_holds_5 : decode cX6_holds 5 = .ok (.iconst 1, 1) := by decide +kernel
theorem dX6_holds_6 : decode cX6_holds 6 = .ok (.if_icmp .ne 7, 3) := by decide +kernel
theorem dX6_holds_9 : decode cX6_holds 9 = .ok (.iconst 1, 1) := by decide +kernel
theorem dX6_holds_10 : decode cX6_holds 10 = .ok (.goto 4, 3) := by decide +kernel
theorem dX6_holds_13 : decode cX6_holds 13 = .ok (.iconst 0, 1) := by decide +kernel
theorem dX6_holds_14 : decode cX6_holds 14 = .ok (.ireturn, 1) := by decide +kernel
theorem dX6_at_0 : decode cX6_at 0 = .ok (.iload_n 1, 1) := by decide +kernel
theorem dX6_at_1 : decode cX6_at 1 = .ok (.ifCond .lt 15, 3) := by decide +kernel
theorem dX6_at_4 : decode cX6_at 4 = .ok (.iload_n 1, 1) := by decide +kernel
theorem dX6_at_5 : decode cX6_at 5 = .ok (.aload_n 0, 1) := by decide +kernel
theorem dX6_at_6 : decode cX6_at 6 = .ok (.arraylength, 1) := by decide +kernel
theorem dX6_at_7 : decode cX6_at 7 = .ok (.if_icmp .ge 9, 3) := by decide +kernel
theorem dX6_at_10 : decode cX6_at 10 = .ok (.aload_n 0, 1) := by decide +kernel
theorem dX6_at_11 : decode cX6_at 11 = .ok (.iload_n 1, 1) := by decide +kernel
theorem dX6_at_12 : decode cX6_at 12 = .ok (.iaload, 1) := by decide +kernel
theorem dX6_at_13 : decode cX6_at 13 = .ok (.goto 4, 3) := by decide +kernel
theorem dX6_at_16 : decode cX6_at 16 = .ok (.iconst 0, 1) := by decide +kernel
theorem dX6_at_17 : decode cX6_at 17 = .ok (.ireturn, 1) := by decide +kernel
theorem dX6_put_0 : decode cX6_put 0 = .ok (.iload_n 1, 1) := by decide +kernel
theorem dX6_put_1 : decode cX6_put 1 = .ok (.ifCond .lt 13, 3) := by decide +kernel
theorem dX6_put_4 : decode cX6_put 4 = .ok (.iload_n 1, 1) := by decide +kernel
theorem dX6_put_5 : decode cX6_put 5 = .ok (.aload_n 0, 1) := by decide +kernel
theorem dX6_put_6 : decode cX6_put 6 = .ok (.arraylength, 1) := by decide +kernel
theorem dX6_put_7 : decode cX6_put 7 = .ok (.if_icmp .ge 7, 3) := by decide +kernel
theorem dX6_put_10 : decode cX6_put 10 = .ok (.aload_n 0, 1) := by decide +kernel
theorem dX6_put_11 : decode cX6_put 11 = .ok (.iload_n 1, 1) := by decide +kernel
theorem dX6_put_12 : decode cX6_put 12 = .ok (.iload_n 2, 1) := by decide +kernel
theorem dX6_put_13 : decode cX6_put 13 = .ok (.iastore, 1) := by decide +kernel
theorem dX6_put_14 : decode cX6_put 14 = .ok (.return_, 1) := by decide +kernel
theorem dX6_fill_0 : decode cX6_fill 0 = .ok (.iconst 0, 1) := by decide +kernel
theorem dX6_fill_1 : decode cX6_fill 1 = .ok (.istore_n 2, 1) := by decide +kernel
theorem dX6_fill_2 : decode cX6_fill 2 = .ok (.iload_n 2, 1) := by decide +kernel
theorem dX6_fill_3 : decode cX6_fill 3 = .ok (.aload_n 0, 1) := by decide +kernel
theorem dX6_fill_4 : decode cX6_fill 4 = .ok (.arraylength, 1) := by decide +kernel
theorem dX6_fill_5 : decode cX6_fill 5 = .ok (.if_icmp .ge 13, 3) := by decide +kernel
theorem dX6_fill_8 : decode cX6_fill 8 = .ok (.aload_n 0, 1) := by decide +kernel
theorem dX6_fill_9 : decode cX6_fill 9 = .ok (.iload_n 2, 1) := by decide +kernel
theorem dX6_fill_10 : decode cX6_fill 10 = .ok (.iload_n 1, 1) := by decide +kernel
theorem dX6_fill_11 : decode cX6_fill 11 = .ok (.iastore, 1) := by decide +kernel
theorem dX6_fill_12 : decode cX6_fill 12 = .ok (.iinc 2 1, 3) := by decide +kernel
theorem dX6_fill_15 : decode cX6_fill 15 = .ok (.goto (-13), 3) := by decide +kernel
theorem dX6_fill_18 : decode cX6_fill 18 = .ok (.return_, 1) := by decide +kernel
theorem dX6_copy_0 : decode cX6_copy 0 = .ok (.iconst 0, 1) := by decide +kernel
theorem dX6_copy_1 : decode cX6_copy 1 = .ok (.istore_n 2, 1) := by decide +kernel
theorem dX6_copy_2 : decode cX6_copy 2 = .ok (.iload_n 2, 1) := by decide +kernel
theorem dX6_copy_3 : decode cX6_copy 3 = .ok (.aload_n 0, 1) := by decide +kernel
theorem dX6_copy_4 : decode cX6_copy 4 = .ok (.arraylength, 1) := by decide +kernel
theorem dX6_copy_5 : decode cX6_copy 5 = .ok (.if_icmp .ge 21, 3) := by decide +kernel
theorem dX6_copy_8 : decode cX6_copy 8 = .ok (.iload_n 2, 1) := by decide +kernel
theorem dX6_copy_9 : decode cX6_copy 9 = .ok (.aload_n 1, 1) := by decide +kernel
theorem dX6_copy_10 : decode cX6_copy 10 = .ok (.arraylength, 1) := by decide +kernel
theorem dX6_copy_11 : decode cX6_copy 11 = .ok (.if_icmp .ge 15, 3) := by decide +kernel
theorem dX6_copy_14 : decode cX6_copy 14 = .ok (.aload_n 1, 1) := by decide +kernel
theorem dX6_copy_15 : decode cX6_copy 15 = .ok (.iload_n 2, 1) := by decide +kernel
theorem dX6_copy_16 : decode cX6_copy 16 = .ok (.aload_n 0, 1) := by decide +kernel
theorem dX6_copy_17 : decode cX6_copy 17 = .ok (.iload_n 2, 1) := by decide +kernel
theorem dX6_copy_18 : decode cX6_copy 18 = .ok (.iaload, 1) := by decide +kernel
theorem dX6_copy_19 : decode cX6_copy 19 = .ok (.iastore, 1) := by decide +kernel
theorem dX6_copy_20 : decode cX6_copy 20 = .ok (.iinc 2 1, 3) := by decide +kernel
theorem dX6_copy_23 : decode cX6_copy 23 = .ok (.goto (-21), 3) := by decide +kernel
theorem dX6_copy_26 : decode cX6_copy 26 = .ok (.return_, 1) := by decide +kernel
theorem dX6_worn_0 : decode cX6_worn 0 = .ok (.iconst 0, 1) := by decide +kernel
theorem dX6_worn_1 : decode cX6_worn 1 = .ok (.iload_n 0, 1) := by decide +kernel
theorem dX6_worn_2 : decode cX6_worn 2 = .ok (.iload_n 1, 1) := by decide +kernel
theorem dX6_worn_3 : decode cX6_worn 3 = .ok (.isub, 1) := by decide +kernel
theorem dX6_worn_4 : decode cX6_worn 4 = .ok (.invokestatic 262, 3) := by decide +kernel
theorem dX6_worn_7 : decode cX6_worn 7 = .ok (.ireturn, 1) := by decide +kernel
theorem dX6_grown_0 : decode cX6_grown 0 = .ok (.bipush 99, 2) := by decide +kernel
theorem dX6_grown_2 : decode cX6_grown 2 = .ok (.iload_n 0, 1) := by decide +kernel
theorem dX6_grown_3 : decode cX6_grown 3 = .ok (.iload_n 1, 1) := by decide +kernel
theorem dX6_grown_4 : decode cX6_grown 4 = .ok (.iadd, 1) := by decide +kernel
theorem dX6_grown_5 : decode cX6_grown 5 = .ok (.invokestatic 226, 3) := by decide +kernel
theorem dX6_grown_8 : decode cX6_grown 8 = .ok (.ireturn, 1) := by decide +kernel
