theorem dX0_init_0 : decode cX0_init 0 = .ok (.aload_n 0, 1) := by decide +kernel
theorem dX0_init_1 : decode cX0_init 1 = .ok (.invokespecial 3, 3) := by decide +kernel
theorem dX0_init_4 : decode cX0_init 4 = .ok (.aload_n 0, 1) := by decide +kernel
theorem dX0_init_5 : decode cX0_init 5 = .ok (.bipush 32, 2) := by decide +kernel
theorem dX0_init_7 : decode cX0_init 7 = .ok (.newarray .int, 2) := by decide +kernel
theorem dX0_init_9 : decode cX0_init 9 = .ok (.putfield 9, 3) := by decide +kernel
theorem dX0_init_12 : decode cX0_init 12 = .ok (.aload_n 0, 1) := by decide +kernel
theorem dX0_init_13 : decode cX0_init 13 = .ok (.bipush 8, 2) := by decide +kernel
theorem dX0_init_15 : decode cX0_init 15 = .ok (.newarray .int, 2) := by decide +kernel
theorem dX0_init_17 : decode cX0_init 17 = .ok (.putfield 15, 3) := by decide +kernel
theorem dX0_init_20 : decode cX0_init 20 = .ok (.aload_n 0, 1) := by decide +kernel
theorem dX0_init_21 : decode cX0_init 21 = .ok (.bipush 8, 2) := by decide +kernel
theorem dX0_init_23 : decode cX0_init 23 = .ok (.newarray .int, 2) := by decide +kernel
theorem dX0_init_25 : decode cX0_init 25 = .ok (.putfield 18, 3) := by decide +kernel
theorem dX0_init_28 : decode cX0_init 28 = .ok (.aload_n 0, 1) := by decide +kernel
theorem dX0_init_29 : decode cX0_init 29 = .ok (.iconst 4, 1) := by decide +kernel
theorem dX0_init_30 : decode cX0_init 30 = .ok (.newarray .int, 2) := by decide +kernel
theorem dX0_init_32 : decode cX0_init 32 = .ok (.putfield 21, 3) := by decide +kernel
theorem dX0_init_35 : decode cX0_init 35 = .ok (.return_, 1) := by decide +kernel
set_option maxRecDepth 20000 in
theorem ggX0_beginAs_X6_copy : GoodIn wsX0_beginAs wsX6_copy := goodIn_r _ [8] (by decide +kernel) (by decide +kernel)
set_option maxRecDepth 20000 in
theorem gX0_beginAs_X6_copy_n29 : GoodIn wsX0_beginAs (wsX6_copy) := ggX0_beginAs_X6_copy
set_option maxRecDepth 20000 in
theorem ggX0_beginAs_X6_fill : GoodIn wsX0_beginAs wsX6_fill := goodIn_r _ [10] (by decide +kernel) (by decide +kernel)
set_option maxRecDepth 20000 in
theorem gX0_beginAs_X6_fill_n36 : GoodIn wsX0_beginAs (wsX6_fill) := ggX0_beginAs_X6_fill
theorem dX0_beginAs_0 : decode cX0_beginAs 0 = .ok (.aload_n 1, 1) := by decide +kernel
theorem dX0_beginAs_1 : decode cX0_beginAs 1 = .ok (.getfield 24, 3) := by decide +kernel
theorem dX0_beginAs_4 : decode cX0_beginAs 4 = .ok (.aload_n 0, 1) := by decide +kernel
theorem dX0_beginAs_5 : decode cX0_beginAs 5 = .ok (.getfield 9, 3) := by decide +kernel
theorem dX0_beginAs_8 : decode cX0_beginAs 8 = .ok (.invokestatic 29, 3) := by decide +kernel
theorem dX0_beginAs_11 : decode cX0_beginAs 11 = .ok (.aload_n 1, 1) := by decide +kernel
theorem dX0_beginAs_12 : decode cX0_beginAs 12 = .ok (.getfield 33, 3) := by decide +kernel
theorem dX0_beginAs_15 : decode cX0_beginAs 15 = .ok (.aload_n 0, 1) := by decide +kernel
theorem dX0_beginAs_16 : decode cX0_beginAs 16 = .ok (.getfield 21, 3) := by decide +kernel
theorem dX0_beginAs_19 : decode cX0_beginAs 19 = .ok (.invokestatic 29, 3) := by decide +kernel
theorem dX0_beginAs_22 : decode cX0_beginAs 22 = .ok (.aload_n 0, 1) := by decide +kernel
theorem dX0_beginAs_23 : decode cX0_beginAs 23 = .ok (.getfield 18, 3) := by decide +kernel
theorem dX0_beginAs_26 : decode cX0_beginAs 26 = .ok (.iconst 0, 1) := by decide +kernel
theorem dX0_beginAs_27 : decode cX0_beginAs 27 = .ok (.invokestatic 36, 3) := by decide +kernel
theorem dX0_beginAs_30 : decode cX0_beginAs 30 = .ok (.aload_n 0, 1) := by decide +kernel
theorem dX0_beginAs_31 : decode cX0_beginAs 31 = .ok (.iconst 0, 1) := by decide +kernel
theorem dX0_beginAs_32 : decode cX0_beginAs 32 = .ok (.putfield 40, 3) := by decide +kernel
theorem dX0_beginAs_35 : decode cX0_beginAs 35 = .ok (.aload_n 0, 1) := by decide +kernel
theorem dX0_beginAs_36 : decode cX0_beginAs 36 = .ok (.iconst 0, 1) := by decide +kernel
theorem dX0_beginAs_37 : decode cX0_beginAs 37 = .ok (.putfield 44, 3) := by decide +kernel
theorem dX0_beginAs_40 : decode cX0_beginAs 40 = .ok (.return_, 1) := by decide +kernel
set_option maxRecDepth 20000 in
theorem ggX0_become_X6_copy : GoodIn wsX0_become wsX6_copy := goodIn_r _ [8] (by decide +kernel) (by decide +kernel)
set_option maxRecDepth 20000 in
theorem gX0_become_X6_copy_n29 : GoodIn wsX0_become (wsX6_copy) := ggX0_become_X6_copy
theorem dX0_become_0 : decode cX0_become 0 = .ok (.aload_n 1, 1) := by decide +kernel
theorem dX0_become_1 : decode cX0_become 1 = .ok (.getfield 9, 3) := by decide +kernel
theorem dX0_become_4 : decode cX0_become 4 = .ok (.aload_n 0, 1) := by decide +kernel
theorem dX0_become_5 : decode cX0_become 5 = .ok (.getfield 9, 3) := by decide +kernel
theorem dX0_become_8 : decode cX0_become 8 = .ok (.invokestatic 29, 3) := by decide +kernel
theorem dX0_become_11 : decode cX0_become 11 = .ok (.aload_n 1, 1) := by decide +kernel
theorem dX0_become_12 : decode cX0_become 12 = .ok (.getfield 18, 3) := by decide +kernel
theorem dX0_become_15 : decode cX0_become 15 = .ok (.aload_n 0, 1) := by decide +kernel
theorem dX0_become_16 : decode cX0_become 16 = .ok (.getfield 18, 3) := by decide +kernel
theorem dX0_become_19 : decode cX0_become 19 = .ok (.invokestatic 29, 3) := by decide +kernel
theorem dX0_become_22 : decode cX0_become 22 = .ok (.aload_n 1, 1) := by decide +kernel
theorem dX0_become_23 : decode cX0_become 23 = .ok (.getfield 21, 3) := by decide +kernel
theorem dX0_become_26 : decode cX0_become 26 = .ok (.aload_n 0, 1) := by decide +kernel
theorem dX0_become_27 : decode cX0_become 27 = .ok (.getfield 21, 3) := by decide +kernel
theorem dX0_become_30 : decode cX0_become 30 = .ok (.invokestatic 29, 3) := by decide +kernel
theorem dX0_become_33 : decode cX0_become 33 = .ok (.aload_n 0, 1) := by decide +kernel
theorem dX0_become_34 : decode cX0_become 34 = .ok (.aload_n 1, 1) := by decide +kernel
theorem dX0_become_35 : decode cX0_become 35 = .ok (.getfield 40, 3) := by decide +kernel
theorem dX0_become_38 : decode cX0_become 38 = .ok (.putfield 40, 3) := by decide +kernel
theorem dX0_become_41 : decode cX0_become 41 = .ok (.aload_n 0, 1) := by decide +kernel
theorem dX0_become_42 : decode cX0_become 42 = .ok (.aload_n 1, 1) := by decide +kernel
theorem dX0_become_43 : decode cX0_become 43 = .ok (.getfield 44, 3) := by decide +kernel
theorem dX0_become_46 : decode cX0_become 46 = .ok (.putfield 44, 3) := by decide +kernel
theorem dX0_become_49 : decode cX0_become 49 = .ok (.return_, 1) := by decide +kernel
set_option maxRecDepth 20000 in
theorem ggX0_grudgeOf_X6_at : GoodIn wsX0_grudgeOf wsX6_at := goodIn_r _ [4] (by decide +kernel) (by decide +kernel)
set_option maxRecDepth 20000 in
theorem gX0_grudgeOf_X6_at_n47 : GoodIn wsX0_grudgeOf (wsX6_at) := ggX0_grudgeOf_X6_at
theorem dX0_grudgeOf_0 : decode cX0_grudgeOf 0 = .ok (.aload_n 0, 1) := by decide +kernel
theorem dX0_grudgeOf_1 : decode cX0_grudgeOf 1 = .ok (.getfield 9, 3) := by decide +kernel
theorem dX0_grudgeOf_4 : decode cX0_grudgeOf 4 = .ok (.iload_n 2, 1) := by decide +kernel
theorem dX0_grudgeOf_5 : decode cX0_grudgeOf 5 = .ok (.bipush 8, 2) := by decide +kernel
theorem dX0_grudgeOf_7 : decode cX0_grudgeOf 7 = .ok (.imul, 1) := by decide +kernel
theorem dX0_grudgeOf_8 : decode cX0_grudgeOf 8 = .ok (.iload_n 1, 1) := by decide +kernel
theorem dX0_grudgeOf_9 : decode cX0_grudgeOf 9 = .ok (.iadd, 1) := by decide +kernel
theorem dX0_grudgeOf_10 : decode cX0_grudgeOf 10 = .ok (.invokestatic 47, 3) := by decide +kernel
theorem dX0_grudgeOf_13 : decode cX0_grudgeOf 13 = .ok (.ireturn, 1) := by decide +kernel
set_option maxRecDepth 20000 in
theorem ggX0_setGrudge_X6_put : GoodIn wsX0_setGrudge wsX6_put := goodIn_r _ [4] (by decide +kernel) (by decide +kernel)
set_option maxRecDepth 20000 in
theorem gX0_setGrudge_X6_put_n51 : GoodIn wsX0_setGrudge (wsX6_put) := ggX0_setGrudge_X6_put
theorem dX0_setGrudge_0 : decode cX0_setGrudge 0 = .ok (.aload_n 0, 1) := by decide +kernel
theorem dX0_setGrudge_1 : decode cX0_setGrudge 1 = .ok (.getfield 9, 3) := by decide +kernel
theorem dX0_setGrudge_4 : decode cX0_setGrudge 4 = .ok (.iload_n 2, 1) := by decide +kernel
theorem dX0_setGrudge_5 : decode cX0_setGrudge 5 = .ok (.bipush 8, 2) := by decide +kernel
theorem dX0_setGrudge_7 : decode cX0_setGrudge 7 = .ok (.imul, 1) := by decide +kernel
theorem dX0_setGrudge_8 : decode cX0_setGrudge 8 = .ok (.iload_n 1, 1) := by decide +kernel
theorem dX0_setGrudge_9 : decode cX0_setGrudge 9 = .ok (.iadd, 1) := by decide +kernel
theorem dX0_setGrudge_10 : decode cX0_setGrudge 10 = .ok (.iload_n 3, 1) := by decide +kernel
theorem dX0_setGrudge_11 : decode cX0_setGrudge 11 = .ok (.invokestatic 51, 3) := by decide +kernel
theorem dX0_setGrudge_14 : decode cX0_setGrudge 14 = .ok (.return_, 1) := by decide +kernel
set_option maxRecDepth 20000 in
theorem ggX0_isOiled_X6_at : GoodIn wsX0_isOiled wsX6_at := goodIn_r _ [4] (by decide +kernel) (by decide +kernel)
set_option maxRecDepth 20000 in
theorem gX0_isOiled_X6_at_n47 : GoodIn wsX0_isOiled (wsX6_at) := ggX0_isOiled_X6_at
theorem dX0_isOiled_0 : decode cX0_isOiled 0 = .ok (.aload_n 0, 1) := by decide +kernel
theorem dX0_isOiled_1 : decode cX0_isOiled 1 = .ok (.getfield 18, 3) := by decide +kernel
theorem dX0_isOiled_4 : decode cX0_isOiled 4 = .ok (.iload_n 1, 1) := by decide +kernel
theorem dX0_isOiled_5 : decode cX0_isOiled 5 = .ok (.invokestatic 47, 3) := by decide +kernel
theorem dX0_isOiled_8 : decode cX0_isOiled 8 = .ok (.ifCond .le 7, 3) := by decide +kernel
theorem dX0_isOiled_11 : decode cX0_isOiled 11 = .ok (.iconst 1, 1) := by decide +kernel
theorem dX0_isOiled_12 : decode cX0_isOiled 12 = .ok (.goto 4, 3) := by decide +kernel
theorem dX0_isOiled_15 : decode cX0_isOiled 15 = .ok (.iconst 0, 1) := by decide +kernel
theorem dX0_isOiled_16 : decode cX0_isOiled 16 = .ok (.ireturn, 1) := by decide +kernel
set_option maxRecDepth 20000 in
theorem ggX0_oiledDoors_X0_isOiled : GoodIn wsX0_oiledDoors wsX0_isOiled := goodIn_r _ [5, 6, 7, 8, 9, 10, 11, 12, 13, 14, 15] (by decide +kernel) (by decide +kernel)
set_option maxRecDepth 20000 in
theorem gX0_oiledDoors_X0_isOiled : GoodIn wsX0_oiledDoors (wsV RX0 55 RX0 yX0_isOiled wsX0_isOiled) := goodIn_app (goodIn_of _ (by decide +kernel)) ggX0_oiledDoors_X0_isOiled
theorem dX0_oiledDoors_0 : decode cX0_oiledDoors 0 = .ok (.iconst 0, 1) := by decide +kernel
theorem dX0_oiledDoors_1 : decode cX0_oiledDoors 1 = .ok (.istore_n 1, 1) := by decide +kernel
theorem dX0_oiledDoors_2 : decode cX0_oiledDoors 2 = .ok (.iconst 0, 1) := by decide +kernel
theorem dX0_oiledDoors_3 : decode cX0_oiledDoors 3 = .ok (.istore_n 2, 1) := by decide +kernel
theorem dX0_oiledDoors_4 : decode cX0_oiledDoors 4 = .ok (.iload_n 2, 1) := by decide +kernel
theorem dX0_oiledDoors_5 : decode cX0_oiledDoors 5 = .ok (.bipush 8, 2) := by decide +kernel
theorem dX0_oiledDoors_7 : decode cX0_oiledDoors 7 = .ok (.if_icmp .ge 25, 3) := by decide +kernel
theorem dX0_oiledDoors_10 : decode cX0_oiledDoors 10 = .ok (.iload_n 1, 1) := by decide +kernel
theorem dX0_oiledDoors_11 : decode cX0_oiledDoors 11 = .ok (.aload_n 0, 1) := by decide +kernel
theorem dX0_oiledDoors_12 : decode cX0_oiledDoors 12 = .ok (.iload_n 2, 1) := by decide +kernel
theorem dX0_oiledDoors_13 : decode cX0_oiledDoors 13 = .ok (.invokevirtual 55, 3) := by decide +kernel
theorem dX0_oiledDoors_16 : decode cX0_oiledDoors 16 = .ok (.ifCond .eq 7, 3) := by decide +kernel
theorem dX0_oiledDoors_19 : decode cX0_oiledDoors 19 = .ok (.iconst 1, 1) := by decide +kernel
theorem dX0_oiledDoors_20 : decode cX0_oiledDoors 20 = .ok (.goto 4, 3) := by decide +kernel
theorem dX0_oiledDoors_23 : decode cX0_oiledDoors 23 = .ok (.iconst 0, 1) := by decide +kernel
theorem dX0_oiledDoors_24 : decode cX0_oiledDoors 24 = .ok (.iadd, 1) := by decide +kernel
theorem dX0_oiledDoors_25 : decode cX0_oiledDoors 25 = .ok (.istore_n 1, 1) := by decide +kernel
theorem dX0_oiledDoors_26 : decode cX0_oiledDoors 26 = .ok (.iinc 2 1, 3) := by decide +kernel
theorem dX0_oiledDoors_29 : decode cX0_oiledDoors 29 = .ok (.goto (-25), 3) := by decide +kernel
theorem dX0_oiledDoors_32 : decode cX0_oiledDoors 32 = .ok (.iload_n 1, 1) := by decide +kernel
theorem dX0_oiledDoors_33 : decode cX0_oiledDoors 33 = .ok (.ireturn, 1) := by decide +kernel
set_option maxRecDepth 20000 in
theorem ggX0_minutesThrough_X0_isOiled : GoodIn wsX0_minutesThrough wsX0_isOiled := goodIn_r _ [5, 6, 7, 8, 9, 15, 16, 17, 18, 19, 20] (by decide +kernel) (by decide +kernel)
set_option maxRecDepth 20000 in
theorem gX0_minutesThrough_X0_isOiled : GoodIn wsX0_minutesThrough (wsV RX0 55 RX0 yX0_isOiled wsX0_isOiled) := goodIn_app (goodIn_of _ (by decide +kernel)) ggX0_minutesThrough_X0_isOiled
set_option maxRecDepth 20000 in
theorem ggX0_minutesThrough_X0_grudgeOf : GoodIn wsX0_minutesThrough wsX0_grudgeOf := goodIn_r _ [13, 14, 7, 8, 9, 15, 16, 17, 18, 19, 20] (by decide +kernel) (by decide +kernel)
set_option maxRecDepth 20000 in
theorem gX0_minutesThrough_X0_grudgeOf : GoodIn wsX0_minutesThrough (wsV RX0 59 RX0 yX0_grudgeOf wsX0_grudgeOf) := goodIn_app (goodIn_of _ (by decide +kernel)) ggX0_minutesThrough_X0_grudgeOf
theorem dX0_minutesThrough_0 : decode cX0_minutesThrough 0 = .ok (.aload_n 0, 1) := by decide +kernel
theorem dX0_minutesThrough_1 : decode cX0_minutesThrough 1 = .ok (.iload_n 1, 1) := by decide +kernel
theorem dX0_minutesThrough_2 : decode cX0_minutesThrough 2 = .ok (.invokevirtual 55, 3) := by decide +kernel
theorem dX0_minutesThrough_5 : decode cX0_minutesThrough 5 = .ok (.ifCond .eq 7, 3) := by decide +kernel
theorem dX0_minutesThrough_8 : decode cX0_minutesThrough 8 = .ok (.iconst 1, 1) := by decide +kernel
theorem dX0_minutesThrough_9 : decode cX0_minutesThrough 9 = .ok (.goto 11, 3) := by decide +kernel
theorem dX0_minutesThrough_12 : decode cX0_minutesThrough 12 = .ok (.iconst 1, 1) := by decide +kernel
theorem dX0_minutesThrough_13 : decode cX0_minutesThrough 13 = .ok (.aload_n 0, 1) := by decide +kernel
theorem dX0_minutesThrough_14 : decode cX0_minutesThrough 14 = .ok (.iload_n 1, 1) := by decide +kernel
theorem dX0_minutesThrough_15 : decode cX0_minutesThrough 15 = .ok (.iload_n 2, 1) := by decide +kernel
theorem dX0_minutesThrough_16 : decode cX0_minutesThrough 16 = .ok (.invokevirtual 59, 3) := by decide +kernel
theorem dX0_minutesThrough_19 : decode cX0_minutesThrough 19 = .ok (.iadd, 1) := by decide +kernel
theorem dX0_minutesThrough_20 : decode cX0_minutesThrough 20 = .ok (.ireturn, 1) := by decide +kernel
set_option maxRecDepth 20000 in
theorem ggX0_passThrough_X0_minutesThrough : GoodIn wsX0_passThrough wsX0_minutesThrough := goodIn_r _ [7, 8, 9, 10, 6, 11, 12, 13, 14, 15, 16, 17, 18, 19, 20, 51, 52, 53, 54, 55, 56] (by decide +kernel) (by decide +kernel)
set_option maxRecDepth 20000 in
theorem gX0_passThrough_X0_minutesThrough : GoodIn wsX0_passThrough (wsV RX0 63 RX0 yX0_minutesThrough wsX0_minutesThrough) := goodIn_app (goodIn_of _ (by decide +kernel)) ggX0_passThrough_X0_minutesThrough
set_option maxRecDepth 20000 in
theorem ggX0_passThrough_X6_at : GoodIn wsX0_passThrough wsX6_at := goodIn_r _ [15] (by decide +kernel) (by decide +kernel)
set_option maxRecDepth 20000 in
theorem gX0_passThrough_X6_at_n47 : GoodIn wsX0_passThrough (wsX6_at) := ggX0_passThrough_X6_at
set_option maxRecDepth 20000 in
theorem ggX0_passThrough_X2_otherSide : GoodIn wsX0_passThrough wsX2_otherSide := goodIn_r _ [25, 26, 27, 13, 14, 15, 57, 58, 59, 60, 61, 62, 63, 64, 65, 66, 67, 68, 69, 70, 71] (by decide +kernel) (by decide +kernel)
set_option maxRecDepth 20000 in
theorem gX0_passThrough_X2_otherSide : GoodIn wsX0_passThrough (wsV RX0 66 RX2 yX2_otherSide wsX2_otherSide) := goodIn_app (goodIn_of _ (by decide +kernel)) ggX0_passThrough_X2_otherSide
set_option maxRecDepth 20000 in
theorem ggX0_passThrough_X6_put : GoodIn wsX0_passThrough wsX6_put := goodIn_r _ [29] (by decide +kernel) (by decide +kernel)
set_option maxRecDepth 20000 in
theorem gX0_passThrough_X6_put_n51 : GoodIn wsX0_passThrough (wsX6_put) := ggX0_passThrough_X6_put
set_option maxRecDepth 20000 in
theorem ggX0_passThrough_X0_grudgeOf : GoodIn wsX0_passThrough wsX0_grudgeOf := goodIn_r _ [19, 20, 13, 14, 15, 51, 52, 53, 54, 55, 56] (by decide +kernel) (by decide +kernel)
set_option maxRecDepth 20000 in
theorem gX0_passThrough_X0_grudgeOf : GoodIn wsX0_passThrough (wsV RX0 59 RX0 yX0_grudgeOf wsX0_grudgeOf) := goodIn_app (goodIn_of _ (by decide +kernel)) ggX0_passThrough_X0_grudgeOf
set_option maxRecDepth 20000 in
theorem ggX0_passThrough_X2_grudgeNext : GoodIn wsX0_passThrough wsX2_grudgeNext := goodIn_r _ [33, 34, 35, 13, 14, 15, 36, 37, 38, 39, 40, 41, 42, 43, 44, 45, 46, 57, 58, 59, 60, 61, 62, 63, 64, 65, 66, 67, 68, 69, 70, 71] (by decide +kernel) (by decide +kernel)
set_option maxRecDepth 20000 in
theorem gX0_passThrough_X2_grudgeNext : GoodIn wsX0_passThrough (wsV RX0 69 RX2 yX2_grudgeNext wsX2_grudgeNext) := goodIn_app (goodIn_of _ (by decide +kernel)) ggX0_passThrough_X2_grudgeNext
set_option maxRecDepth 20000 in
theorem ggX0_passThrough_X0_setGrudge : GoodIn wsX0_passThrough wsX0_setGrudge := goodIn_r _ [50, 20, 28, 14, 29, 51, 52, 53, 54, 55, 56] (by decide +kernel) (by decide +kernel)
set_option maxRecDepth 20000 in
theorem gX0_passThrough_X0_setGrudge : GoodIn wsX0_passThrough (wsV RX0 73 RX0 yX0_setGrudge wsX0_setGrudge) := goodIn_app (goodIn_of _ (by decide +kernel)) ggX0_passThrough_X0_setGrudge
theorem dX0_passThrough_0 : decode cX0_passThrough 0 = .ok (.aload_n 0, 1) := by decide +kernel
theorem dX0_passThrough_1 : decode cX0_passThrough 1 = .ok (.iload_n 3, 1) := by decide +kernel
theorem dX0_passThrough_2 : decode cX0_passThrough 2 = .ok (.iload_n 2, 1) := by decide +kernel
theorem dX0_passThrough_3 : decode cX0_passThrough 3 = .ok (.invokevirtual 63, 3) := by decide +kernel
theorem dX0_passThrough_6 : decode cX0_passThrough 6 = .ok (.istore 5, 2) := by decide +kernel
theorem dX0_passThrough_8 : decode cX0_passThrough 8 = .ok (.aload_n 0, 1) := by decide +kernel
theorem dX0_passThrough_9 : decode cX0_passThrough 9 = .ok (.dup, 1) := by decide +kernel
theorem dX0_passThrough_10 : decode cX0_passThrough 10 = .ok (.getfield 40, 3) := by decide +kernel
theorem dX0_passThrough_13 : decode cX0_passThrough 13 = .ok (.iload 5, 2) := by decide +kernel
theorem dX0_passThrough_15 : decode cX0_passThrough 15 = .ok (.iadd, 1) := by decide +kernel
theorem dX0_passThrough_16 : decode cX0_passThrough 16 = .ok (.putfield 40, 3) := by decide +kernel
theorem dX0_passThrough_19 : decode cX0_passThrough 19 = .ok (.aload_n 0, 1) := by decide +kernel
theorem dX0_passThrough_20 : decode cX0_passThrough 20 = .ok (.getfield 21, 3) := by decide +kernel
theorem dX0_passThrough_23 : decode cX0_passThrough 23 = .ok (.iload_n 2, 1) := by decide +kernel
theorem dX0_passThrough_24 : decode cX0_passThrough 24 = .ok (.aload_n 1, 1) := by decide +kernel
theorem dX0_passThrough_25 : decode cX0_passThrough 25 = .ok (.iload_n 3, 1) := by decide +kernel
theorem dX0_passThrough_26 : decode cX0_passThrough 26 = .ok (.aload_n 0, 1) := by decide +kernel
theorem dX0_passThrough_27 : decode cX0_passThrough 27 = .ok (.getfield 21, 3) := by decide +kernel
theorem dX0_passThrough_30 : decode cX0_passThrough 30 = .ok (.iload_n 2, 1) := by decide +kernel
theorem dX0_passThrough_31 : decode cX0_passThrough 31 = .ok (.invokestatic 47, 3) := by decide +kernel
theorem dX0_passThrough_34 : decode cX0_passThrough 34 = .ok (.invokevirtual 66, 3) := by decide +kernel
theorem dX0_passThrough_37 : decode cX0_passThrough 37 = .ok (.invokestatic 51, 3) := by decide +kernel
theorem dX0_passThrough_40 : decode cX0_passThrough 40 = .ok (.aload_n 0, 1) := by decide +kernel
theorem dX0_passThrough_41 : decode cX0_passThrough 41 = .ok (.iload_n 3, 1) := by decide +kernel
theorem dX0_passThrough_42 : decode cX0_passThrough 42 = .ok (.iload_n 2, 1) := by decide +kernel
theorem dX0_passThrough_43 : decode cX0_passThrough 43 = .ok (.aload_n 1, 1) := by decide +kernel
theorem dX0_passThrough_44 : decode cX0_passThrough 44 = .ok (.aload_n 0, 1) := by decide +kernel
theorem dX0_passThrough_45 : decode cX0_passThrough 45 = .ok (.iload_n 3, 1) := by decide +kernel
theorem dX0_passThrough_46 : decode cX0_passThrough 46 = .ok (.iload_n 2, 1) := by decide +kernel
theorem dX0_passThrough_47 : decode cX0_passThrough 47 = .ok (.invokevirtual 59, 3) := by decide +kernel
theorem dX0_passThrough_50 : decode cX0_passThrough 50 = .ok (.iload_n 2, 1) := by decide +kernel
theorem dX0_passThrough_51 : decode cX0_passThrough 51 = .ok (.iload 4, 2) := by decide +kernel
theorem dX0_passThrough_53 : decode cX0_passThrough 53 = .ok (.invokevirtual 69, 3) := by decide +kernel
theorem dX0_passThrough_56 : decode cX0_passThrough 56 = .ok (.invokevirtual 73, 3) := by decide +kernel
theorem dX0_passThrough_59 : decode cX0_passThrough 59 = .ok (.iload 5, 2) := by decide +kernel
theorem dX0_passThrough_61 : decode cX0_passThrough 61 = .ok (.ireturn, 1) := by decide +kernel
set_option maxRecDepth 20000 in
theorem ggX0_sleep_X0_passOn : GoodIn wsX0_sleep wsX0_passOn := goodIn_r _ [6, 7, 8, 9, 10, 11, 12, 13, 14, 15, 5, 16, 17, 18, 19, 20, 21, 22, 23, 24, 25, 26, 27, 28, 29, 30, 31, 32, 33, 34, 35, 36, 37, 38, 39, 60, 61, 62, 63, 64, 65, 45, 46, 47, 48, 49, 50, 51, 52, 53, 54, 55, 56, 57, 58, 59] (by decide +kernel) (by decide +kernel)
set_option maxRecDepth 20000 in
theorem gX0_sleep_X0_passOn : GoodIn wsX0_sleep (wsV RX0 80 RX0 yX0_passOn wsX0_passOn) := goodIn_app (goodIn_of _ (by decide +kernel)) ggX0_sleep_X0_passOn
set_option maxRecDepth 20000 in
theorem ggX0_sleep_X0_dryOil : GoodIn wsX0_sleep wsX0_dryOil := goodIn_r _ [43, 17, 44, 28, 29, 30, 11, 9, 12, 23, 24, 60, 61, 62, 63, 64, 65] (by decide +kernel) (by decide +kernel)
set_option maxRecDepth 20000 in
theorem gX0_sleep_X0_dryOil : GoodIn wsX0_sleep (wsV RX0 84 RX0 yX0_dryOil wsX0_dryOil) := goodIn_app (goodIn_of _ (by decide +kernel)) ggX0_sleep_X0_dryOil
theorem dX0_sleep_0 : decode cX0_sleep 0 = .ok (.iconst 0, 1) := by decide +kernel
theorem dX0_sleep_1 : decode cX0_sleep 1 = .ok (.istore_n 2, 1) := by decide +kernel
theorem dX0_sleep_2 : decode cX0_sleep 2 = .ok (.iload_n 2, 1) := by decide +kernel
theorem dX0_sleep_3 : decode cX0_sleep 3 = .ok (.aload_n 1, 1) := by decide +kernel
theorem dX0_sleep_4 : decode cX0_sleep 4 = .ok (.getfield 77, 3) := by decide +kernel
theorem dX0_sleep_7 : decode cX0_sleep 7 = .ok (.if_icmp .ge 15, 3) := by decide +kernel
theorem dX0_sleep_10 : decode cX0_sleep 10 = .ok (.aload_n 0, 1) := by decide +kernel
theorem dX0_sleep_11 : decode cX0_sleep 11 = .ok (.aload_n 1, 1) := by decide +kernel
theorem dX0_sleep_12 : decode cX0_sleep 12 = .ok (.iload_n 2, 1) := by decide +kernel
theorem dX0_sleep_13 : decode cX0_sleep 13 = .ok (.invokevirtual 80, 3) := by decide +kernel
theorem dX0_sleep_16 : decode cX0_sleep 16 = .ok (.iinc 2 1, 3) := by decide +kernel
theorem dX0_sleep_19 : decode cX0_sleep 19 = .ok (.goto (-17), 3) := by decide +kernel
theorem dX0_sleep_22 : decode cX0_sleep 22 = .ok (.aload_n 0, 1) := by decide +kernel
theorem dX0_sleep_23 : decode cX0_sleep 23 = .ok (.invokevirtual 84, 3) := by decide +kernel
theorem dX0_sleep_26 : decode cX0_sleep 26 = .ok (.aload_n 0, 1) := by decide +kernel
theorem dX0_sleep_27 : decode cX0_sleep 27 = .ok (.dup, 1) := by decide +kernel
theorem dX0_sleep_28 : decode cX0_sleep 28 = .ok (.getfield 44, 3) := by decide +kernel
theorem dX0_sleep_31 : decode cX0_sleep 31 = .ok (.iconst 1, 1) := by decide +kernel
theorem dX0_sleep_32 : decode cX0_sleep 32 = .ok (.iadd, 1) := by decide +kernel
theorem dX0_sleep_33 : decode cX0_sleep 33 = .ok (.putfield 44, 3) := by decide +kernel
theorem dX0_sleep_36 : decode cX0_sleep 36 = .ok (.return_, 1) := by decide +kernel
set_option maxRecDepth 20000 in
theorem ggX0_sleepAgainstOne_X0_passOn : GoodIn wsX0_sleepAgainstOne wsX0_passOn := goodIn_r _ [5, 6, 7, 8, 9, 10, 11, 12, 13, 14, 4, 15, 16, 17, 18, 19, 20, 21, 22, 23, 24, 25, 26, 27, 28, 29, 30, 31, 32, 33, 34, 35, 36, 37, 38, 44, 45, 46, 47, 48, 49, 50, 51, 52, 53, 54, 55, 56, 57, 58, 59, 60, 61, 62, 63, 64] (by decide +kernel) (by decide +kernel)
set_option maxRecDepth 20000 in
theorem gX0_sleepAgainstOne_X0_passOn : GoodIn wsX0_sleepAgainstOne (wsV RX0 80 RX0 yX0_passOn wsX0_passOn) := goodIn_app (goodIn_of _ (by decide +kernel)) ggX0_sleepAgainstOne_X0_passOn
set_option maxRecDepth 20000 in
theorem ggX0_sleepAgainstOne_X0_dryOil : GoodIn wsX0_sleepAgainstOne wsX0_dryOil := goodIn_r _ [42, 16, 43, 27, 28, 29, 10, 8, 11, 22, 23, 44, 45, 46, 47, 48, 49] (by decide +kernel) (by decide +kernel)
set_option maxRecDepth 20000 in
theorem gX0_sleepAgainstOne_X0_dryOil : GoodIn wsX0_sleepAgainstOne (wsV RX0 84 RX0 yX0_dryOil wsX0_dryOil) := goodIn_app (goodIn_of _ (by decide +kernel)) ggX0_sleepAgainstOne_X0_dryOil
theorem dX0_sleepAgainstOne_0 : decode cX0_sleepAgainstOne 0 = .ok (.iconst 0, 1) := by decide +kernel
theorem dX0_sleepAgainstOne_1 : decode cX0_sleepAgainstOne 1 = .ok (.istore 4, 2) := by decide +kernel
theorem dX0_sleepAgainstOne_3 : decode cX0_sleepAgainstOne 3 = .ok (.iload 4, 2) := by decide +kernel
theorem dX0_sleepAgainstOne_5 : decode cX0_sleepAgainstOne 5 = .ok (.iload_n 2, 1) := by decide +kernel
theorem dX0_sleepAgainstOne_6 : decode cX0_sleepAgainstOne 6 = .ok (.if_icmp .ge 19, 3) := by decide +kernel
theorem dX0_sleepAgainstOne_9 : decode cX0_sleepAgainstOne 9 = .ok (.aload_n 0, 1) := by decide +kernel
theorem dX0_sleepAgainstOne_10 : decode cX0_sleepAgainstOne 10 = .ok (.aload_n 1, 1) := by decide +kernel
theorem dX0_sleepAgainstOne_11 : decode cX0_sleepAgainstOne 11 = .ok (.iload_n 3, 1) := by decide +kernel
theorem dX0_sleepAgainstOne_12 : decode cX0_sleepAgainstOne 12 = .ok (.invokevirtual 80, 3) := by decide +kernel
theorem dX0_sleepAgainstOne_15 : decode cX0_sleepAgainstOne 15 = .ok (.aload_n 0, 1) := by decide +kernel
theorem dX0_sleepAgainstOne_16 : decode cX0_sleepAgainstOne 16 = .ok (.invokevirtual 84, 3) := by decide +kernel
theorem dX0_sleepAgainstOne_19 : decode cX0_sleepAgainstOne 19 = .ok (.iinc 4 1, 3) := by decide +kernel
theorem dX0_sleepAgainstOne_22 : decode cX0_sleepAgainstOne 22 = .ok (.goto (-19), 3) := by decide +kernel
theorem dX0_sleepAgainstOne_25 : decode cX0_sleepAgainstOne 25 = .ok (.return_, 1) := by decide +kernel
set_option maxRecDepth 20000 in
theorem ggX0_passOn_X6_fill : GoodIn wsX0_passOn wsX6_fill := goodIn_r _ [4] (by decide +kernel) (by decide +kernel)
set_option maxRecDepth 20000 in
theorem gX0_passOn_X6_fill_n36 : GoodIn wsX0_passOn (wsX6_fill) := ggX0_passOn_X6_fill
set_option maxRecDepth 20000 in
theorem ggX0_passOn_X6_at : GoodIn wsX0_passOn wsX6_at := goodIn_r _ [6] (by decide +kernel) (by decide +kernel)
set_option maxRecDepth 20000 in
theorem gX0_passOn_X6_at_n47 : GoodIn wsX0_passOn (wsX6_at) := ggX0_passOn_X6_at
set_option maxRecDepth 20000 in
theorem ggX0_passOn_X0_isOiled : GoodIn wsX0_passOn wsX0_isOiled := goodIn_r _ [11, 12, 5, 3, 6, 35, 36, 37, 38, 39, 40] (by decide +kernel) (by decide +kernel)
set_option maxRecDepth 20000 in
theorem gX0_passOn_X0_isOiled : GoodIn wsX0_passOn (wsV RX0 55 RX0 yX0_isOiled wsX0_isOiled) := goodIn_app (goodIn_of _ (by decide +kernel)) ggX0_passOn_X0_isOiled
set_option maxRecDepth 20000 in
theorem ggX0_passOn_X0_grudgeOf : GoodIn wsX0_passOn wsX0_grudgeOf := goodIn_r _ [16, 17, 5, 3, 6, 35, 36, 37, 38, 39, 40] (by decide +kernel) (by decide +kernel)
set_option maxRecDepth 20000 in
theorem gX0_passOn_X0_grudgeOf : GoodIn wsX0_passOn (wsV RX0 59 RX0 yX0_grudgeOf wsX0_grudgeOf) := goodIn_app (goodIn_of _ (by decide +kernel)) ggX0_passOn_X0_grudgeOf
set_option maxRecDepth 20000 in
theorem ggX0_passOn_X6_put : GoodIn wsX0_passOn wsX6_put := goodIn_r _ [19] (by decide +kernel) (by decide +kernel)
set_option maxRecDepth 20000 in
theorem gX0_passOn_X6_put_n51 : GoodIn wsX0_passOn (wsX6_put) := ggX0_passOn_X6_put
set_option maxRecDepth 20000 in
theorem ggX0_passOn_X6_worn : GoodIn wsX0_passOn wsX6_worn := goodIn_r _ [21, 22, 23, 24, 25] (by decide +kernel) (by decide +kernel)
set_option maxRecDepth 20000 in
theorem gX0_passOn_X6_worn_n99 : GoodIn wsX0_passOn (wsX6_worn) := ggX0_passOn_X6_worn
set_option maxRecDepth 20000 in
theorem ggX0_passOn_X6_grown : GoodIn wsX0_passOn wsX6_grown := goodIn_r _ [27, 28, 29, 24, 30] (by decide +kernel) (by decide +kernel)
set_option maxRecDepth 20000 in
theorem gX0_passOn_X6_grown_n105 : GoodIn wsX0_passOn (wsX6_grown) := ggX0_passOn_X6_grown
set_option maxRecDepth 20000 in
theorem ggX0_passOn_X0_setGrudge : GoodIn wsX0_passOn wsX0_setGrudge := goodIn_r _ [34, 17, 18, 3, 19, 35, 36, 37, 38, 39, 40] (by decide +kernel) (by decide +kernel)
set_option maxRecDepth 20000 in
theorem gX0_passOn_X0_setGrudge : GoodIn wsX0_passOn (wsV RX0 73 RX0 yX0_setGrudge wsX0_setGrudge) := goodIn_app (goodIn_of _ (by decide +kernel)) ggX0_passOn_X0_setGrudge
theorem dX0_passOn_0 : decode cX0_passOn 0 = .ok (.aload_n 0, 1) := by decide +kernel
theorem dX0_passOn_1 : decode cX0_passOn 1 = .ok (.getfield 15, 3) := by decide +kernel
theorem dX0_passOn_4 : decode cX0_passOn 4 = .ok (.iconst 0, 1) := by decide +kernel
theorem dX0_passOn_5 : decode cX0_passOn 5 = .ok (.invokestatic 36, 3) := by decide +kernel
theorem dX0_passOn_8 : decode cX0_passOn 8 = .ok (.iconst 0, 1) := by decide +kernel
theorem dX0_passOn_9 : decode cX0_passOn 9 = .ok (.istore_n 3, 1) := by decide +kernel
theorem dX0_passOn_10 : decode cX0_passOn 10 = .ok (.iload_n 3, 1) := by decide +kernel
theorem dX0_passOn_11 : decode cX0_passOn 11 = .ok (.aload_n 1, 1) := by decide +kernel
theorem dX0_passOn_12 : decode cX0_passOn 12 = .ok (.getfield 87, 3) := by decide +kernel
theorem dX0_passOn_15 : decode cX0_passOn 15 = .ok (.if_icmp .ge 98, 3) := by decide +kernel
theorem dX0_passOn_18 : decode cX0_passOn 18 = .ok (.aload_n 1, 1) := by decide +kernel
theorem dX0_passOn_19 : decode cX0_passOn 19 = .ok (.getfield 90, 3) := by decide +kernel
theorem dX0_passOn_22 : decode cX0_passOn 22 = .ok (.iload_n 3, 1) := by decide +kernel
theorem dX0_passOn_23 : decode cX0_passOn 23 = .ok (.invokestatic 47, 3) := by decide +kernel
theorem dX0_passOn_26 : decode cX0_passOn 26 = .ok (.istore 4, 2) := by decide +kernel
theorem dX0_passOn_28 : decode cX0_passOn 28 = .ok (.iload 4, 2) := by decide +kernel
theorem dX0_passOn_30 : decode cX0_passOn 30 = .ok (.iload_n 3, 1) := by decide +kernel
theorem dX0_passOn_31 : decode cX0_passOn 31 = .ok (.if_icmp .eq 76, 3) := by decide +kernel
theorem dX0_passOn_34 : decode cX0_passOn 34 = .ok (.aload_n 0, 1) := by decide +kernel
theorem dX0_passOn_35 : decode cX0_passOn 35 = .ok (.iload_n 3, 1) := by decide +kernel
theorem dX0_passOn_36 : decode cX0_passOn 36 = .ok (.invokevirtual 55, 3) := by decide +kernel
theorem dX0_passOn_39 : decode cX0_passOn 39 = .ok (.ifCond .ne 68, 3) := by decide +kernel
theorem dX0_passOn_42 : decode cX0_passOn 42 = .ok (.aload_n 0, 1) := by decide +kernel
theorem dX0_passOn_43 : decode cX0_passOn 43 = .ok (.iload 4, 2) := by decide +kernel
theorem dX0_passOn_45 : decode cX0_passOn 45 = .ok (.invokevirtual 55, 3) := by decide +kernel
theorem dX0_passOn_48 : decode cX0_passOn 48 = .ok (.ifCond .ne 59, 3) := by decide +kernel
theorem dX0_passOn_51 : decode cX0_passOn 51 = .ok (.aload_n 0, 1) := by decide +kernel
theorem dX0_passOn_52 : decode cX0_passOn 52 = .ok (.iload_n 3, 1) := by decide +kernel
theorem dX0_passOn_53 : decode cX0_passOn 53 = .ok (.iload_n 2, 1) := by decide +kernel
theorem dX0_passOn_54 : decode cX0_passOn 54 = .ok (.invokevirtual 59, 3) := by decide +kernel
theorem dX0_passOn_57 : decode cX0_passOn 57 = .ok (.aload_n 1, 1) := by decide +kernel
theorem dX0_passOn_58 : decode cX0_passOn 58 = .ok (.getfield 93, 3) := by decide +kernel
theorem dX0_passOn_61 : decode cX0_passOn 61 = .ok (.imul, 1) := by decide +kernel
theorem dX0_passOn_62 : decode cX0_passOn 62 = .ok (.bipush 10, 2) := by decide +kernel
theorem dX0_passOn_64 : decode cX0_passOn 64 = .ok (.idiv, 1) := by decide +kernel
theorem dX0_passOn_65 : decode cX0_passOn 65 = .ok (.istore 5, 2) := by decide +kernel
theorem dX0_passOn_67 : decode cX0_passOn 67 = .ok (.aload_n 0, 1) := by decide +kernel
theorem dX0_passOn_68 : decode cX0_passOn 68 = .ok (.getfield 15, 3) := by decide +kernel
theorem dX0_passOn_71 : decode cX0_passOn 71 = .ok (.iload_n 3, 1) := by decide +kernel
theorem dX0_passOn_72 : decode cX0_passOn 72 = .ok (.aload_n 0, 1) := by decide +kernel
theorem dX0_passOn_73 : decode cX0_passOn 73 = .ok (.getfield 15, 3) := by decide +kernel
theorem dX0_passOn_76 : decode cX0_passOn 76 = .ok (.iload_n 3, 1) := by decide +kernel
theorem dX0_passOn_77 : decode cX0_passOn 77 = .ok (.invokestatic 47, 3) := by decide +kernel
theorem dX0_passOn_80 : decode cX0_passOn 80 = .ok (.iload 5, 2) := by decide +kernel
theorem dX0_passOn_82 : decode cX0_passOn 82 = .ok (.isub, 1) := by decide +kernel
theorem dX0_passOn_83 : decode cX0_passOn 83 = .ok (.invokestatic 51, 3) := by decide +kernel
theorem dX0_passOn_86 : decode cX0_passOn 86 = .ok (.aload_n 0, 1) := by decide +kernel
theorem dX0_passOn_87 : decode cX0_passOn 87 = .ok (.getfield 15, 3) := by decide +kernel
theorem dX0_passOn_90 : decode cX0_passOn 90 = .ok (.iload 4, 2) := by decide +kernel
theorem dX0_passOn_92 : decode cX0_passOn 92 = .ok (.aload_n 0, 1) := by decide +kernel
theorem dX0_passOn_93 : decode cX0_passOn 93 = .ok (.getfield 15, 3) := by decide +kernel
theorem dX0_passOn_96 : decode cX0_passOn 96 = .ok (.iload 4, 2) := by decide +kernel
theorem dX0_passOn_98 : decode cX0_passOn 98 = .ok (.invokestatic 47, 3) := by decide +kernel
theorem dX0_passOn_101 : decode cX0_passOn 101 = .ok (.iload 5, 2) := by decide +kernel
theorem dX0_passOn_103 : decode cX0_passOn 103 = .ok (.iadd, 1) := by decide +kernel
theorem dX0_passOn_104 : decode cX0_passOn 104 = .ok (.invokestatic 51, 3) := by decide +kernel
theorem dX0_passOn_107 : decode cX0_passOn 107 = .ok (.iinc 3 1, 3) := by decide +kernel
theorem dX0_passOn_110 : decode cX0_passOn 110 = .ok (.goto (-100), 3) := by decide +kernel
theorem dX0_passOn_113 : decode cX0_passOn 113 = .ok (.iconst 0, 1) := by decide +kernel
theorem dX0_passOn_114 : decode cX0_passOn 114 = .ok (.istore_n 3, 1) := by decide +kernel
theorem dX0_passOn_115 : decode cX0_passOn 115 = .ok (.iload_n 3, 1) := by decide +kernel
theorem dX0_passOn_116 : decode cX0_passOn 116 = .ok (.aload_n 1, 1) := by decide +kernel
theorem dX0_passOn_117 : decode cX0_passOn 117 = .ok (.getfield 87, 3) := by decide +kernel
theorem dX0_passOn_120 : decode cX0_passOn 120 = .ok (.if_icmp .ge 52, 3) := by decide +kernel
theorem dX0_passOn_123 : decode cX0_passOn 123 = .ok (.aload_n 0, 1) := by decide +kernel
theorem dX0_passOn_124 : decode cX0_passOn 124 = .ok (.iload_n 3, 1) := by decide +kernel
theorem dX0_passOn_125 : decode cX0_passOn 125 = .ok (.iload_n 2, 1) := by decide +kernel
theorem dX0_passOn_126 : decode cX0_passOn 126 = .ok (.invokevirtual 59, 3) := by decide +kernel
theorem dX0_passOn_129 : decode cX0_passOn 129 = .ok (.aload_n 0, 1) := by decide +kernel
theorem dX0_passOn_130 : decode cX0_passOn 130 = .ok (.getfield 15, 3) := by decide +kernel
theorem dX0_passOn_133 : decode cX0_passOn 133 = .ok (.iload_n 3, 1) := by decide +kernel
theorem dX0_passOn_134 : decode cX0_passOn 134 = .ok (.invokestatic 47, 3) := by decide +kernel
theorem dX0_passOn_137 : decode cX0_passOn 137 = .ok (.iadd, 1) := by decide +kernel
theorem dX0_passOn_138 : decode cX0_passOn 138 = .ok (.aload_n 1, 1) := by decide +kernel
theorem dX0_passOn_139 : decode cX0_passOn 139 = .ok (.getfield 96, 3) := by decide +kernel
theorem dX0_passOn_142 : decode cX0_passOn 142 = .ok (.invokestatic 99, 3) := by decide +kernel
theorem dX0_passOn_145 : decode cX0_passOn 145 = .ok (.istore 4, 2) := by decide +kernel
theorem dX0_passOn_147 : decode cX0_passOn 147 = .ok (.aload_n 0, 1) := by decide +kernel
theorem dX0_passOn_148 : decode cX0_passOn 148 = .ok (.iload_n 3, 1) := by decide +kernel
theorem dX0_passOn_149 : decode cX0_passOn 149 = .ok (.iload_n 2, 1) := by decide +kernel
theorem dX0_passOn_150 : decode cX0_passOn 150 = .ok (.iload 4, 2) := by decide +kernel
theorem dX0_passOn_152 : decode cX0_passOn 152 = .ok (.aload_n 1, 1) := by decide +kernel
theorem dX0_passOn_153 : decode cX0_passOn 153 = .ok (.getfield 102, 3) := by decide +kernel
theorem dX0_passOn_156 : decode cX0_passOn 156 = .ok (.iload_n 3, 1) := by decide +kernel
theorem dX0_passOn_157 : decode cX0_passOn 157 = .ok (.invokestatic 47, 3) := by decide +kernel
theorem dX0_passOn_160 : decode cX0_passOn 160 = .ok (.invokestatic 105, 3) := by decide +kernel
theorem dX0_passOn_163 : decode cX0_passOn 163 = .ok (.invokevirtual 73, 3) := by decide +kernel
theorem dX0_passOn_166 : decode cX0_passOn 166 = .ok (.iinc 3 1, 3) := by decide +kernel
theorem dX0_passOn_169 : decode cX0_passOn 169 = .ok (.goto (-54), 3) := by decide +kernel
theorem dX0_passOn_172 : decode cX0_passOn 172 = .ok (.return_, 1) := by decide +kernel
set_option maxRecDepth 20000 in
theorem ggX0_dryOil_X6_at : GoodIn wsX0_dryOil wsX6_at := goodIn_r _ [8] (by decide +kernel) (by decide +kernel)
set_option maxRecDepth 20000 in
theorem gX0_dryOil_X6_at_n47 : GoodIn wsX0_dryOil (wsX6_at) := ggX0_dryOil_X6_at
set_option maxRecDepth 20000 in
theorem ggX0_dryOil_X6_put : GoodIn wsX0_dryOil wsX6_put := goodIn_r _ [10] (by decide +kernel) (by decide +kernel)
set_option maxRecDepth 20000 in
theorem gX0_dryOil_X6_put_n51 : GoodIn wsX0_dryOil (wsX6_put) := ggX0_dryOil_X6_put
theorem dX0_dryOil_0 : decode cX0_dryOil 0 = .ok (.iconst 0, 1) := by decide +kernel
theorem dX0_dryOil_1 : decode cX0_dryOil 1 = .ok (.istore_n 1, 1) := by decide +kernel
theorem dX0_dryOil_2 : decode cX0_dryOil 2 = .ok (.iload_n 1, 1) := by decide +kernel
theorem dX0_dryOil_3 : decode cX0_dryOil 3 = .ok (.bipush 8, 2) := by decide +kernel
theorem dX0_dryOil_5 : decode cX0_dryOil 5 = .ok (.if_icmp .ge 31, 3) := by decide +kernel
theorem dX0_dryOil_8 : decode cX0_dryOil 8 = .ok (.aload_n 0, 1) := by decide +kernel
theorem dX0_dryOil_9 : decode cX0_dryOil 9 = .ok (.getfield 18, 3) := by decide +kernel
theorem dX0_dryOil_12 : decode cX0_dryOil 12 = .ok (.iload_n 1, 1) := by decide +kernel
theorem dX0_dryOil_13 : decode cX0_dryOil 13 = .ok (.iconst 0, 1) := by decide +kernel
theorem dX0_dryOil_14 : decode cX0_dryOil 14 = .ok (.aload_n 0, 1) := by decide +kernel
theorem dX0_dryOil_15 : decode cX0_dryOil 15 = .ok (.getfield 18, 3) := by decide +kernel
theorem dX0_dryOil_18 : decode cX0_dryOil 18 = .ok (.iload_n 1, 1) := by decide +kernel
theorem dX0_dryOil_19 : decode cX0_dryOil 19 = .ok (.invokestatic 47, 3) := by decide +kernel
theorem dX0_dryOil_22 : decode cX0_dryOil 22 = .ok (.iconst 1, 1) := by decide +kernel
theorem dX0_dryOil_23 : decode cX0_dryOil 23 = .ok (.isub, 1) := by decide +kernel
theorem dX0_dryOil_24 : decode cX0_dryOil 24 = .ok (.invokestatic 108, 3) := by decide +kernel
theorem dX0_dryOil_27 : decode cX0_dryOil 27 = .ok (.invokestatic 51, 3) := by decide +kernel
theorem dX0_dryOil_30 : decode cX0_dryOil 30 = .ok (.iinc 1 1, 3) := by decide +kernel
theorem dX0_dryOil_33 : decode cX0_dryOil 33 = .ok (.goto (-31), 3) := by decide +kernel
theorem dX0_dryOil_36 : decode cX0_dryOil 36 = .ok (.return_, 1) := by decide +kernel
set_option maxRecDepth 20000 in
theorem ggX0_grudgesOfDoor_X0_grudgeOf : GoodIn wsX0_grudgesOfDoor wsX0_grudgeOf := goodIn_r _ [5, 6, 7, 8, 9, 25, 26, 27, 28, 29, 30] (by decide +kernel) (by decide +kernel)
set_option maxRecDepth 20000 in
theorem gX0_grudgesOfDoor_X0_grudgeOf : GoodIn wsX0_grudgesOfDoor (wsV RX0 59 RX0 yX0_grudgeOf wsX0_grudgeOf) := goodIn_app (goodIn_of _ (by decide +kernel)) ggX0_grudgesOfDoor_X0_grudgeOf
theorem dX0_grudgesOfDoor_0 : decode cX0_grudgesOfDoor 0 = .ok (.iconst 0, 1) := by decide +kernel
theorem dX0_grudgesOfDoor_1 : decode cX0_grudgesOfDoor 1 = .ok (.istore_n 3, 1) := by decide +kernel
theorem dX0_grudgesOfDoor_2 : decode cX0_grudgesOfDoor 2 = .ok (.iconst 0, 1) := by decide +kernel
theorem dX0_grudgesOfDoor_3 : decode cX0_grudgesOfDoor 3 = .ok (.istore 4, 2) := by decide +kernel
theorem dX0_grudgesOfDoor_5 : decode cX0_grudgesOfDoor 5 = .ok (.iload 4, 2) := by decide +kernel
theorem dX0_grudgesOfDoor_7 : decode cX0_grudgesOfDoor 7 = .ok (.aload_n 1, 1) := by decide +kernel
theorem dX0_grudgesOfDoor_8 : decode cX0_grudgesOfDoor 8 = .ok (.getfield 77, 3) := by decide +kernel
theorem dX0_grudgesOfDoor_11 : decode cX0_grudgesOfDoor 11 = .ok (.if_icmp .ge 19, 3) := by decide +kernel
theorem dX0_grudgesOfDoor_14 : decode cX0_grudgesOfDoor 14 = .ok (.iload_n 3, 1) := by decide +kernel
theorem dX0_grudgesOfDoor_15 : decode cX0_grudgesOfDoor 15 = .ok (.aload_n 0, 1) := by decide +kernel
theorem dX0_grudgesOfDoor_16 : decode cX0_grudgesOfDoor 16 = .ok (.iload_n 2, 1) := by decide +kernel
theorem dX0_grudgesOfDoor_17 : decode cX0_grudgesOfDoor 17 = .ok (.iload 4, 2) := by decide +kernel
theorem dX0_grudgesOfDoor_19 : decode cX0_grudgesOfDoor 19 = .ok (.invokevirtual 59, 3) := by decide +kernel
theorem dX0_grudgesOfDoor_22 : decode cX0_grudgesOfDoor 22 = .ok (.iadd, 1) := by decide +kernel
theorem dX0_grudgesOfDoor_23 : decode cX0_grudgesOfDoor 23 = .ok (.istore_n 3, 1) := by decide +kernel
theorem dX0_grudgesOfDoor_24 : decode cX0_grudgesOfDoor 24 = .ok (.iinc 4 1, 3) := by decide +kernel
theorem dX0_grudgesOfDoor_27 : decode cX0_grudgesOfDoor 27 = .ok (.goto (-22), 3) := by decide +kernel
theorem dX0_grudgesOfDoor_30 : decode cX0_grudgesOfDoor 30 = .ok (.iload_n 3, 1) := by decide +kernel
theorem dX0_grudgesOfDoor_31 : decode cX0_grudgesOfDoor 31 = .ok (.ireturn, 1) := by decide +kernel
set_option maxRecDepth 20000 in
theorem ggX0_allGrudges_X0_grudgesOfDoor : GoodIn wsX0_allGrudges wsX0_grudgesOfDoor := goodIn_r _ [5, 6, 7, 8, 4, 9, 10, 11, 12, 13, 14, 15, 16, 17, 18, 19, 20, 21, 22, 23, 24, 25, 26, 27, 28, 29, 30, 31, 32, 33, 34] (by decide +kernel) (by decide +kernel)
set_option maxRecDepth 20000 in
theorem gX0_allGrudges_X0_grudgesOfDoor : GoodIn wsX0_allGrudges (wsV RX0 113 RX0 yX0_grudgesOfDoor wsX0_grudgesOfDoor) := goodIn_app (goodIn_of _ (by decide +kernel)) ggX0_allGrudges_X0_grudgesOfDoor
theorem dX0_allGrudges_0 : decode cX0_allGrudges 0 = .ok (.iconst 0, 1) := by decide +kernel
theorem dX0_allGrudges_1 : decode cX0_allGrudges 1 = .ok (.istore_n 2, 1) := by decide +kernel
theorem dX0_allGrudges_2 : decode cX0_allGrudges 2 = .ok (.iconst 0, 1) := by decide +kernel
theorem dX0_allGrudges_3 : decode cX0_allGrudges 3 = .ok (.istore_n 3, 1) := by decide +kernel
theorem dX0_allGrudges_4 : decode cX0_allGrudges 4 = .ok (.iload_n 3, 1) := by decide +kernel
theorem dX0_allGrudges_5 : decode cX0_allGrudges 5 = .ok (.aload_n 1, 1) := by decide +kernel
theorem dX0_allGrudges_6 : decode cX0_allGrudges 6 = .ok (.getfield 87, 3) := by decide +kernel
theorem dX0_allGrudges_9 : decode cX0_allGrudges 9 = .ok (.if_icmp .ge 18, 3) := by decide +kernel
theorem dX0_allGrudges_12 : decode cX0_allGrudges 12 = .ok (.iload_n 2, 1) := by decide +kernel
theorem dX0_allGrudges_13 : decode cX0_allGrudges 13 = .ok (.aload_n 0, 1) := by decide +kernel
theorem dX0_allGrudges_14 : decode cX0_allGrudges 14 = .ok (.aload_n 1, 1) := by decide +kernel
theorem dX0_allGrudges_15 : decode cX0_allGrudges 15 = .ok (.iload_n 3, 1) := by decide +kernel
theorem dX0_allGrudges_16 : decode cX0_allGrudges 16 = .ok (.invokevirtual 113, 3) := by decide +kernel
theorem dX0_allGrudges_19 : decode cX0_allGrudges 19 = .ok (.iadd, 1) := by decide +kernel
theorem dX0_allGrudges_20 : decode cX0_allGrudges 20 = .ok (.istore_n 2, 1) := by decide +kernel
theorem dX0_allGrudges_21 : decode cX0_allGrudges 21 = .ok (.iinc 3 1, 3) := by decide +kernel
theorem dX0_allGrudges_24 : decode cX0_allGrudges 24 = .ok (.goto (-20), 3) := by decide +kernel
theorem dX0_allGrudges_27 : decode cX0_allGrudges 27 = .ok (.iload_n 2, 1) := by decide +kernel
theorem dX0_allGrudges_28 : decode cX0_allGrudges 28 = .ok (.ireturn, 1) := by decide +kernel
set_option maxRecDepth 20000 in
theorem ggX1_init_X0_init : GoodIn wsX1_init wsX0_init := goodIn_r _ [13, 14, 2, 3, 15, 16, 17, 18, 19, 22, 23, 24, 25, 26, 27] (by decide +kernel) (by decide +kernel)
set_option maxRecDepth 20000 in
theorem gX1_init_X0_init_n21 : GoodIn wsX1_init (wsX0_init) := ggX1_init_X0_init
theorem dX1_init_0 : decode cX1_init 0 = .ok (.aload_n 0, 1) := by decide +kernel
theorem dX1_init_1 : decode cX1_init 1 = .ok (.invokespecial 1, 3) := by decide +kernel
theorem dX1_init_4 : decode cX1_init 4 = .ok (.aload_n 0, 1) := by decide +kernel
theorem dX1_init_5 : decode cX1_init 5 = .ok (.iconst 0, 1) := by decide +kernel
theorem dX1_init_6 : decode cX1_init 6 = .ok (.iload_n 1, 1) := by decide +kernel
theorem dX1_init_7 : decode cX1_init 7 = .ok (.invokestatic 7, 3) := by decide +kernel
theorem dX1_init_10 : decode cX1_init 10 = .ok (.anewarray 13, 3) := by decide +kernel
theorem dX1_init_13 : decode cX1_init 13 = .ok (.putfield 15, 3) := by decide +kernel
theorem dX1_init_16 : decode cX1_init 16 = .ok (.iconst 0, 1) := by decide +kernel
theorem dX1_init_17 : decode cX1_init 17 = .ok (.istore_n 2, 1) := by decide +kernel
theorem dX1_init_18 : decode cX1_init 18 = .ok (.iload_n 2, 1) := by decide +kernel
theorem dX1_init_19 : decode cX1_init 19 = .ok (.aload_n 0, 1) := by decide +kernel
theorem dX1_init_20 : decode cX1_init 20 = .ok (.getfield 15, 3) := by decide +kernel
theorem dX1_init_23 : decode cX1_init 23 = .ok (.arraylength, 1) := by decide +kernel
theorem dX1_init_24 : decode cX1_init 24 = .ok (.if_icmp .ge 22, 3) := by decide +kernel
theorem dX1_init_27 : decode cX1_init 27 = .ok (.aload_n 0, 1) := by decide +kernel
theorem dX1_init_28 : decode cX1_init 28 = .ok (.getfield 15, 3) := by decide +kernel
theorem dX1_init_31 : decode cX1_init 31 = .ok (.iload_n 2, 1) := by decide +kernel
theorem dX1_init_32 : decode cX1_init 32 = .ok (.new 13, 3) := by decide +kernel
theorem dX1_init_35 : decode cX1_init 35 = .ok (.dup, 1) := by decide +kernel
theorem dX1_init_36 : decode cX1_init 36 = .ok (.invokespecial 21, 3) := by decide +kernel
theorem dX1_init_39 : decode cX1_init 39 = .ok (.aastore, 1) := by decide +kernel
theorem dX1_init_40 : decode cX1_init 40 = .ok (.iinc 2 1, 3) := by decide +kernel
theorem dX1_init_43 : decode cX1_init 43 = .ok (.goto (-25), 3) := by decide +kernel
theorem dX1_init_46 : decode cX1_init 46 = .ok (.return_, 1) := by decide +kernel
theorem dX1_forgetAll_0 : decode cX1_forgetAll 0 = .ok (.aload_n 0, 1) := by decide +kernel
theorem dX1_forgetAll_1 : decode cX1_forgetAll 1 = .ok (.iconst 0, 1) := by decide +kernel
theorem dX1_forgetAll_2 : decode cX1_forgetAll 2 = .ok (.putfield 22, 3) := by decide +kernel
theorem dX1_forgetAll_5 : decode cX1_forgetAll 5 = .ok (.return_, 1) := by decide +kernel
set_option maxRecDepth 20000 in
theorem ggX1_push_X1_dropOldest : GoodIn wsX1_push wsX1_dropOldest := goodIn_r _ [7, 2, 1, 25, 26] (by decide +kernel) (by decide +kernel)
set_option maxRecDepth 20000 in
theorem gX1_push_X1_dropOldest : GoodIn wsX1_push (wsV RX1 26 RX1 yX1_dropOldest wsX1_dropOldest) := goodIn_app (goodIn_of _ (by decide +kernel)) ggX1_push_X1_dropOldest
set_option maxRecDepth 20000 in
theorem ggX1_push_X1_slotAt : GoodIn wsX1_push wsX1_slotAt := goodIn_r _ [11, 2, 25, 26] (by decide +kernel) (by decide +kernel)
set_option maxRecDepth 20000 in
theorem gX1_push_X1_slotAt : GoodIn wsX1_push (wsV RX1 29 RX1 yX1_slotAt wsX1_slotAt) := goodIn_app (goodIn_of _ (by decide +kernel)) ggX1_push_X1_slotAt
set_option maxRecDepth 20000 in
theorem ggX1_push_X0_become : GoodIn wsX1_push wsX0_become := goodIn_r _ [16, 17, 18, 19, 20, 21, 22, 23, 24, 27, 28, 29, 30, 31, 32] (by decide +kernel) (by decide +kernel)
set_option maxRecDepth 20000 in
theorem gX1_push_X0_become : GoodIn wsX1_push (wsV RX1 33 RX0 yX0_become wsX0_become) := goodIn_app (goodIn_of _ (by decide +kernel)) ggX1_push_X0_become
theorem dX1_push_0 : decode cX1_push 0 = .ok (.aload_n 0, 1) := by decide +kernel
theorem dX1_push_1 : decode cX1_push 1 = .ok (.getfield 22, 3) := by decide +kernel
theorem dX1_push_4 : decode cX1_push 4 = .ok (.aload_n 0, 1) := by decide +kernel
theorem dX1_push_5 : decode cX1_push 5 = .ok (.getfield 15, 3) := by decide +kernel
theorem dX1_push_8 : decode cX1_push 8 = .ok (.arraylength, 1) := by decide +kernel
theorem dX1_push_9 : decode cX1_push 9 = .ok (.if_icmp .lt 7, 3) := by decide +kernel
theorem dX1_push_12 : decode cX1_push 12 = .ok (.aload_n 0, 1) := by decide +kernel
theorem dX1_push_13 : decode cX1_push 13 = .ok (.invokevirtual 26, 3) := by decide +kernel
theorem dX1_push_16 : decode cX1_push 16 = .ok (.aload_n 0, 1) := by decide +kernel
theorem dX1_push_17 : decode cX1_push 17 = .ok (.aload_n 0, 1) := by decide +kernel
theorem dX1_push_18 : decode cX1_push 18 = .ok (.getfield 22, 3) := by decide +kernel
theorem dX1_push_21 : decode cX1_push 21 = .ok (.invokevirtual 29, 3) := by decide +kernel
theorem dX1_push_24 : decode cX1_push 24 = .ok (.astore_n 2, 1) := by decide +kernel
theorem dX1_push_25 : decode cX1_push 25 = .ok (.aload_n 2, 1) := by decide +kernel
theorem dX1_push_26 : decode cX1_push 26 = .ok (.ifnull 18, 3) := by decide +kernel
theorem dX1_push_29 : decode cX1_push 29 = .ok (.aload_n 2, 1) := by decide +kernel
theorem dX1_push_30 : decode cX1_push 30 = .ok (.aload_n 1, 1) := by decide +kernel
theorem dX1_push_31 : decode cX1_push 31 = .ok (.invokevirtual 33, 3) := by decide +kernel
theorem dX1_push_34 : decode cX1_push 34 = .ok (.aload_n 0, 1) := by decide +kernel
theorem dX1_push_35 : decode cX1_push 35 = .ok (.dup, 1) := by decide +kernel
theorem dX1_push_36 : decode cX1_push 36 = .ok (.getfield 22, 3) := by decide +kernel
theorem dX1_push_39 : decode cX1_push 39 = .ok (.iconst 1, 1) := by decide +kernel
theorem dX1_push_40 : decode cX1_push 40 = .ok (.iadd, 1) := by decide +kernel
theorem dX1_push_41 : decode cX1_push 41 = .ok (.putfield 22, 3) := by decide +kernel
theorem dX1_push_44 : decode cX1_push 44 = .ok (.return_, 1) := by decide +kernel
set_option maxRecDepth 20000 in
theorem ggX1_pop_X1_slotAt : GoodIn wsX1_pop wsX1_slotAt := goodIn_r _ [6, 7, 21, 22] (by decide +kernel) (by decide +kernel)
set_option maxRecDepth 20000 in
theorem gX1_pop_X1_slotAt : GoodIn wsX1_pop (wsV RX1 29 RX1 yX1_slotAt wsX1_slotAt) := goodIn_app (goodIn_of _ (by decide +kernel)) ggX1_pop_X1_slotAt
set_option maxRecDepth 20000 in
theorem ggX1_pop_X0_become : GoodIn wsX1_pop wsX0_become := goodIn_r _ [12, 13, 14, 15, 16, 17, 18, 19, 20, 23, 24, 25, 26, 27, 28] (by decide +kernel) (by decide +kernel)
set_option maxRecDepth 20000 in
theorem gX1_pop_X0_become : GoodIn wsX1_pop (wsV RX1 33 RX0 yX0_become wsX0_become) := goodIn_app (goodIn_of _ (by decide +kernel)) ggX1_pop_X0_become
theorem dX1_pop_0 : decode cX1_pop 0 = .ok (.aload_n 0, 1) := by decide +kernel
theorem dX1_pop_1 : decode cX1_pop 1 = .ok (.aload_n 0, 1) := by decide +kernel
theorem dX1_pop_2 : decode cX1_pop 2 = .ok (.getfield 22, 3) := by decide +kernel
theorem dX1_pop_5 : decode cX1_pop 5 = .ok (.iconst 1, 1) := by decide +kernel
theorem dX1_pop_6 : decode cX1_pop 6 = .ok (.isub, 1) := by decide +kernel
theorem dX1_pop_7 : decode cX1_pop 7 = .ok (.invokevirtual 29, 3) := by decide +kernel
theorem dX1_pop_10 : decode cX1_pop 10 = .ok (.astore_n 2, 1) := by decide +kernel
theorem dX1_pop_11 : decode cX1_pop 11 = .ok (.aload_n 2, 1) := by decide +kernel
theorem dX1_pop_12 : decode cX1_pop 12 = .ok (.ifnonnull 5, 3) := by decide +kernel
theorem dX1_pop_15 : decode cX1_pop 15 = .ok (.iconst 0, 1) := by decide +kernel
theorem dX1_pop_16 : decode cX1_pop 16 = .ok (.ireturn, 1) := by decide +kernel
theorem dX1_pop_17 : decode cX1_pop 17 = .ok (.aload_n 1, 1) := by decide +kernel
theorem dX1_pop_18 : decode cX1_pop 18 = .ok (.aload_n 2, 1) := by decide +kernel
theorem dX1_pop_19 : decode cX1_pop 19 = .ok (.invokevirtual 33, 3) := by decide +kernel
theorem dX1_pop_22 : decode cX1_pop 22 = .ok (.aload_n 0, 1) := by decide +kernel
theorem dX1_pop_23 : decode cX1_pop 23 = .ok (.dup, 1) := by decide +kernel
theorem dX1_pop_24 : decode cX1_pop 24 = .ok (.getfield 22, 3) := by decide +kernel
theorem dX1_pop_27 : decode cX1_pop 27 = .ok (.iconst 1, 1) := by decide +kernel
theorem dX1_pop_28 : decode cX1_pop 28 = .ok (.isub, 1) := by decide +kernel
theorem dX1_pop_29 : decode cX1_pop 29 = .ok (.putfield 22, 3) := by decide +kernel
theorem dX1_pop_32 : decode cX1_pop 32 = .ok (.iconst 1, 1) := by decide +kernel
theorem dX1_pop_33 : decode cX1_pop 33 = .ok (.ireturn, 1) := by decide +kernel
theorem dX1_slotAt_0 : decode cX1_slotAt 0 = .ok (.iload_n 1, 1) := by decide +kernel
theorem dX1_slotAt_1 : decode cX1_slotAt 1 = .ok (.ifCond .lt 21, 3) := by decide +kernel
theorem dX1_slotAt_4 : decode cX1_slotAt 4 = .ok (.iload_n 1, 1) := by decide +kernel
theorem dX1_slotAt_5 : decode cX1_slotAt 5 = .ok (.aload_n 0, 1) := by decide +kernel
theorem dX1_slotAt_6 : decode cX1_slotAt 6 = .ok (.getfield 15, 3) := by decide +kernel
theorem dX1_slotAt_9 : decode cX1_slotAt 9 = .ok (.arraylength, 1) := by decide +kernel
theorem dX1_slotAt_10 : decode cX1_slotAt 10 = .ok (.if_icmp .ge 12, 3) := by decide +kernel
theorem dX1_slotAt_13 : decode cX1_slotAt 13 = .ok (.aload_n 0, 1) := by decide +kernel
theorem dX1_slotAt_14 : decode cX1_slotAt 14 = .ok (.getfield 15, 3) := by decide +kernel
theorem dX1_slotAt_17 : decode cX1_slotAt 17 = .ok (.iload_n 1, 1) := by decide +kernel
theorem dX1_slotAt_18 : decode cX1_slotAt 18 = .ok (.aaload, 1) := by decide +kernel
theorem dX1_slotAt_19 : decode cX1_slotAt 19 = .ok (.goto 4, 3) := by decide +kernel
theorem dX1_slotAt_22 : decode cX1_slotAt 22 = .ok (.aconst_null, 1) := by decide +kernel
theorem dX1_slotAt_23 : decode cX1_slotAt 23 = .ok (.areturn, 1) := by decide +kernel
theorem dX1_dropOldest_0 : decode cX1_dropOldest 0 = .ok (.aload_n 0, 1) := by decide +kernel
theorem dX1_dropOldest_1 : decode cX1_dropOldest 1 = .ok (.getfield 15, 3) := by decide +kernel
theorem dX1_dropOldest_4 : decode cX1_dropOldest 4 = .ok (.arraylength, 1) := by decide +kernel
theorem dX1_dropOldest_5 : decode cX1_dropOldest 5 = .ok (.iconst 1, 1) := by decide +kernel
theorem dX1_dropOldest_6 : decode cX1_dropOldest 6 = .ok (.if_icmp .ge 4, 3) := by decide +kernel
theorem dX1_dropOldest_9 : decode cX1_dropOldest 9 = .ok (.return_, 1) := by decide +kernel
theorem dX1_dropOldest_10 : decode cX1_dropOldest 10 = .ok (.aload_n 0, 1) := by decide +kernel
theorem dX1_dropOldest_11 : decode cX1_dropOldest 11 = .ok (.getfield 15, 3) := by decide +kernel
theorem dX1_dropOldest_14 : decode cX1_dropOldest 14 = .ok (.iconst 0, 1) := by decide +kernel
theorem dX1_dropOldest_15 : decode cX1_dropOldest 15 = .ok (.aaload, 1) := by decide +kernel
theorem dX1_dropOldest_16 : decode cX1_dropOldest 16 = .ok (.astore_n 1, 1) := by decide +kernel
theorem dX1_dropOldest_17 : decode cX1_dropOldest 17 = .ok (.iconst 1, 1) := by decide +kernel
theorem dX1_dropOldest_18 : decode cX1_dropOldest 18 = .ok (.istore_n 2, 1) := by decide +kernel
theorem dX1_dropOldest_19 : decode cX1_dropOldest 19 = .ok (.iload_n 2, 1) := by decide +kernel
theorem dX1_dropOldest_20 : decode cX1_dropOldest 20 = .ok (.aload_n 0, 1) := by decide +kernel
theorem dX1_dropOldest_21 : decode cX1_dropOldest 21 = .ok (.getfield 15, 3) := by decide +kernel
theorem dX1_dropOldest_24 : decode cX1_dropOldest 24 = .ok (.arraylength, 1) := by decide +kernel
theorem dX1_dropOldest_25 : decode cX1_dropOldest 25 = .ok (.if_icmp .ge 23, 3) := by decide +kernel
theorem dX1_dropOldest_28 : decode cX1_dropOldest 28 = .ok (.aload_n 0, 1) := by decide +kernel
theorem dX1_dropOldest_29 : decode cX1_dropOldest 29 = .ok (.getfield 15, 3) := by decide +kernel
theorem dX1_dropOldest_32 : decode cX1_dropOldest 32 = .ok (.iload_n 2, 1) := by decide +kernel
theorem dX1_dropOldest_33 : decode cX1_dropOldest 33 = .ok (.iconst 1, 1) := by decide +kernel
theorem dX1_dropOldest_34 : decode cX1_dropOldest 34 = .ok (.isub, 1) := by decide +kernel
theorem dX1_dropOldest_35 : decode cX1_dropOldest 35 = .ok (.aload_n 0, 1) := by decide +kernel
theorem dX1_dropOldest_36 : decode cX1_dropOldest 36 = .ok (.getfield 15, 3) := by decide +kernel
theorem dX1_dropOldest_39 : decode cX1_dropOldest 39 = .ok (.iload_n 2, 1) := by decide +kernel
theorem dX1_dropOldest_40 : decode cX1_dropOldest 40 = .ok (.aaload, 1) := by decide +kernel
theorem dX1_dropOldest_41 : decode cX1_dropOldest 41 = .ok (.aastore, 1) := by decide +kernel
theorem dX1_dropOldest_42 : decode cX1_dropOldest 42 = .ok (.iinc 2 1, 3) := by decide +kernel
theorem dX1_dropOldest_45 : decode cX1_dropOldest 45 = .ok (.goto (-26), 3) := by decide +kernel
theorem dX1_dropOldest_48 : decode cX1_dropOldest 48 = .ok (.aload_n 0, 1) := by decide +kernel
theorem dX1_dropOldest_49 : decode cX1_dropOldest 49 = .ok (.getfield 15, 3) := by decide +kernel
theorem dX1_dropOldest_52 : decode cX1_dropOldest 52 = .ok (.aload_n 0, 1) := by decide +kernel
theorem dX1_dropOldest_53 : decode cX1_dropOldest 53 = .ok (.getfield 15, 3) := by decide +kernel
theorem dX1_dropOldest_56 : decode cX1_dropOldest 56 = .ok (.arraylength, 1) := by decide +kernel
theorem dX1_dropOldest_57 : decode cX1_dropOldest 57 = .ok (.iconst 1, 1) := by decide +kernel
theorem dX1_dropOldest_58 : decode cX1_dropOldest 58 = .ok (.isub, 1) := by decide +kernel
theorem dX1_dropOldest_59 : decode cX1_dropOldest 59 = .ok (.aload_n 1, 1) := by decide +kernel
theorem dX1_dropOldest_60 : decode cX1_dropOldest 60 = .ok (.aastore, 1) := by decide +kernel
theorem dX1_dropOldest_61 : decode cX1_dropOldest 61 = .ok (.aload_n 0, 1) := by decide +kernel
theorem dX1_dropOldest_62 : decode cX1_dropOldest 62 = .ok (.aload_n 0, 1) := by decide +kernel
theorem dX1_dropOldest_63 : decode cX1_dropOldest 63 = .ok (.getfield 15, 3) := by decide +kernel
theorem dX1_dropOldest_66 : decode cX1_dropOldest 66 = .ok (.arraylength, 1) := by decide +kernel
theorem dX1_dropOldest_67 : decode cX1_dropOldest 67 = .ok (.iconst 1, 1) := by decide +kernel
theorem dX1_dropOldest_68 : decode cX1_dropOldest 68 = .ok (.isub, 1) := by decide +kernel
theorem dX1_dropOldest_69 : decode cX1_dropOldest 69 = .ok (.putfield 22, 3) := by decide +kernel
theorem dX1_dropOldest_72 : decode cX1_dropOldest 72 = .ok (.return_, 1) := by decide +kernel
theorem dX2_init_0 : decode cX2_init 0 = .ok (.aload_n 0, 1) := by decide +kernel
theorem dX2_init_1 : decode cX2_init 1 = .ok (.invokespecial 3, 3) := by decide +kernel
theorem dX2_init_4 : decode cX2_init 4 = .ok (.aload_n 0, 1) := by decide +kernel
theorem dX2_init_5 : decode cX2_init 5 = .ok (.bipush 8, 2) := by decide +kernel
theorem dX2_init_7 : decode cX2_init 7 = .ok (.newarray .int, 2) := by decide +kernel
theorem dX2_init_9 : decode cX2_init 9 = .ok (.putfield 9, 3) := by decide +kernel
theorem dX2_init_12 : decode cX2_init 12 = .ok (.aload_n 0, 1) := by decide +kernel
theorem dX2_init_13 : decode cX2_init 13 = .ok (.bipush 8, 2) := by decide +kernel
theorem dX2_init_15 : decode cX2_init 15 = .ok (.newarray .int, 2) := by decide +kernel
theorem dX2_init_17 : decode cX2_init 17 = .ok (.putfield 15, 3) := by decide +kernel
theorem dX2_init_20 : decode cX2_init 20 = .ok (.aload_n 0, 1) := by decide +kernel
theorem dX2_init_21 : decode cX2_init 21 = .ok (.bipush 8, 2) := by decide +kernel
theorem dX2_init_23 : decode cX2_init 23 = .ok (.newarray .int, 2) := by decide +kernel
theorem dX2_init_25 : decode cX2_init 25 = .ok (.putfield 18, 3) := by decide +kernel
theorem dX2_init_28 : decode cX2_init 28 = .ok (.aload_n 0, 1) := by decide +kernel
theorem dX2_init_29 : decode cX2_init 29 = .ok (.bipush 8, 2) := by decide +kernel
theorem dX2_init_31 : decode cX2_init 31 = .ok (.newarray .int, 2) := by decide +kernel
theorem dX2_init_33 : decode cX2_init 33 = .ok (.putfield 21, 3) := by decide +kernel
theorem dX2_init_36 : decode cX2_init 36 = .ok (.aload_n 0, 1) := by decide +kernel
theorem dX2_init_37 : decode cX2_init 37 = .ok (.iconst 4, 1) := by decide +kernel
theorem dX2_init_38 : decode cX2_init 38 = .ok (.newarray .int, 2) := by decide +kernel
theorem dX2_init_40 : decode cX2_init 40 = .ok (.putfield 24, 3) := by decide +kernel
theorem dX2_init_43 : decode cX2_init 43 = .ok (.aload_n 0, 1) := by decide +kernel
theorem dX2_init_44 : decode cX2_init 44 = .ok (.iconst 4, 1) := by decide +kernel
theorem dX2_init_45 : decode cX2_init 45 = .ok (.newarray .int, 2) := by decide +kernel
theorem dX2_init_47 : decode cX2_init 47 = .ok (.putfield 27, 3) := by decide +kernel
theorem dX2_init_50 : decode cX2_init 50 = .ok (.aload_n 0, 1) := by decide +kernel
theorem dX2_init_51 : decode cX2_init 51 = .ok (.iconst 4, 1) := by decide +kernel
theorem dX2_init_52 : decode cX2_init 52 = .ok (.newarray .int, 2) := by decide +kernel
theorem dX2_init_54 : decode cX2_init 54 = .ok (.putfield 30, 3) := by decide +kernel
theorem dX2_init_57 : decode cX2_init 57 = .ok (.aload_n 0, 1) := by decide +kernel
theorem dX2_init_58 : decode cX2_init 58 = .ok (.bipush 32, 2) := by decide +kernel
theorem dX2_init_60 : decode cX2_init 60 = .ok (.newarray .int, 2) := by decide +kernel
theorem dX2_init_62 : decode cX2_init 62 = .ok (.putfield 33, 3) := by decide +kernel
theorem dX2_init_65 : decode cX2_init 65 = .ok (.aload_n 0, 1) := by decide +kernel
theorem dX2_init_66 : decode cX2_init 66 = .ok (.iconst 3, 1) := by decide +kernel
theorem dX2_init_67 : decode cX2_init 67 = .ok (.putfield 36, 3) := by decide +kernel
theorem dX2_init_70 : decode cX2_init 70 = .ok (.aload_n 0, 1) := by decide +kernel
theorem dX2_init_71 : decode cX2_init 71 = .ok (.iconst 3, 1) := by decide +kernel
theorem dX2_init_72 : decode cX2_init 72 = .ok (.putfield 40, 3) := by decide +kernel
theorem dX2_init_75 : decode cX2_init 75 = .ok (.aload_n 0, 1) := by decide +kernel
theorem dX2_init_76 : decode cX2_init 76 = .ok (.iconst 1, 1) := by decide +kernel
theorem dX2_init_77 : decode cX2_init 77 = .ok (.putfield 43, 3) := by decide +kernel
theorem dX2_init_80 : decode cX2_init 80 = .ok (.aload_n 0, 1) := by decide +kernel
theorem dX2_init_81 : decode cX2_init 81 = .ok (.iconst 1, 1) := by decide +kernel
theorem dX2_init_82 : decode cX2_init 82 = .ok (.putfield 46, 3) := by decide +kernel
theorem dX2_init_85 : decode cX2_init 85 = .ok (.aload_n 0, 1) := by decide +kernel
theorem dX2_init_86 : decode cX2_init 86 = .ok (.iconst 2, 1) := by decide +kernel
theorem dX2_init_87 : decode cX2_init 87 = .ok (.putfield 49, 3) := by decide +kernel
theorem dX2_init_90 : decode cX2_init 90 = .ok (.return_, 1) := by decide +kernel
set_option maxRecDepth 20000 in
theorem ggX2_clear_X6_fill : GoodIn wsX2_clear wsX6_fill := goodIn_r _ [12] (by decide +kernel) (by decide +kernel)
set_option maxRecDepth 20000 in
theorem gX2_clear_X6_fill_n52 : GoodIn wsX2_clear (wsX6_fill) := ggX2_clear_X6_fill
theorem dX2_clear_0 : decode cX2_clear 0 = .ok (.aload_n 0, 1) := by decide +kernel
theorem dX2_clear_1 : decode cX2_clear 1 = .ok (.getfield 21, 3) := by decide +kernel
theorem dX2_clear_4 : decode cX2_clear 4 = .ok (.iconst 0, 1) := by decide +kernel
theorem dX2_clear_5 : decode cX2_clear 5 = .ok (.invokestatic 52, 3) := by decide +kernel
theorem dX2_clear_8 : decode cX2_clear 8 = .ok (.aload_n 0, 1) := by decide +kernel
theorem dX2_clear_9 : decode cX2_clear 9 = .ok (.getfield 33, 3) := by decide +kernel
theorem dX2_clear_12 : decode cX2_clear 12 = .ok (.iconst 0, 1) := by decide +kernel
theorem dX2_clear_13 : decode cX2_clear 13 = .ok (.invokestatic 52, 3) := by decide +kernel
theorem dX2_clear_16 : decode cX2_clear 16 = .ok (.aload_n 0, 1) := by decide +kernel
theorem dX2_clear_17 : decode cX2_clear 17 = .ok (.iconst 3, 1) := by decide +kernel
theorem dX2_clear_18 : decode cX2_clear 18 = .ok (.putfield 36, 3) := by decide +kernel
theorem dX2_clear_21 : decode cX2_clear 21 = .ok (.aload_n 0, 1) := by decide +kernel
theorem dX2_clear_22 : decode cX2_clear 22 = .ok (.iconst 0, 1) := by decide +kernel
theorem dX2_clear_23 : decode cX2_clear 23 = .ok (.putfield 56, 3) := by decide +kernel
theorem dX2_clear_26 : decode cX2_clear 26 = .ok (.aload_n 0, 1) := by decide +kernel
theorem dX2_clear_27 : decode cX2_clear 27 = .ok (.iconst 0, 1) := by decide +kernel
theorem dX2_clear_28 : decode cX2_clear 28 = .ok (.putfield 59, 3) := by decide +kernel
theorem dX2_clear_31 : decode cX2_clear 31 = .ok (.aload_n 0, 1) := by decide +kernel
theorem dX2_clear_32 : decode cX2_clear 32 = .ok (.iconst 3, 1) := by decide +kernel
theorem dX2_clear_33 : decode cX2_clear 33 = .ok (.putfield 40, 3) := by decide +kernel
theorem dX2_clear_36 : decode cX2_clear 36 = .ok (.aload_n 0, 1) := by decide +kernel
theorem dX2_clear_37 : decode cX2_clear 37 = .ok (.iconst 1, 1) := by decide +kernel
theorem dX2_clear_38 : decode cX2_clear 38 = .ok (.putfield 43, 3) := by decide +kernel
theorem dX2_clear_41 : decode cX2_clear 41 = .ok (.aload_n 0, 1) := by decide +kernel
theorem dX2_clear_42 : decode cX2_clear 42 = .ok (.iconst 1, 1) := by decide +kernel
theorem dX2_clear_43 : decode cX2_clear 43 = .ok (.putfield 46, 3) := by decide +kernel
theorem dX2_clear_46 : decode cX2_clear 46 = .ok (.aload_n 0, 1) := by decide +kernel
theorem dX2_clear_47 : decode cX2_clear 47 = .ok (.iconst 2, 1) := by decide +kernel
theorem dX2_clear_48 : decode cX2_clear 48 = .ok (.putfield 49, 3) := by decide +kernel
theorem dX2_clear_51 : decode cX2_clear 51 = .ok (.return_, 1) := by decide +kernel
set_option maxRecDepth 20000 in
theorem ggX2_addDoor_X6_put : GoodIn wsX2_addDoor wsX6_put := goodIn_r _ [7] (by decide +kernel) (by decide +kernel)
set_option maxRecDepth 20000 in
theorem gX2_addDoor_X6_put_n62 : GoodIn wsX2_addDoor (wsX6_put) := ggX2_addDoor_X6_put
theorem dX2_addDoor_0 : decode cX2_addDoor 0 = .ok (.aload_n 0, 1) := by decide +kernel
theorem dX2_addDoor_1 : decode cX2_addDoor 1 = .ok (.getfield 9, 3) := by decide +kernel
theorem dX2_addDoor_4 : decode cX2_addDoor 4 = .ok (.aload_n 0, 1) := by decide +kernel
theorem dX2_addDoor_5 : decode cX2_addDoor 5 = .ok (.getfield 56, 3) := by decide +kernel
theorem dX2_addDoor_8 : decode cX2_addDoor 8 = .ok (.iload_n 1, 1) := by decide +kernel
theorem dX2_addDoor_9 : decode cX2_addDoor 9 = .ok (.invokestatic 62, 3) := by decide +kernel
theorem dX2_addDoor_12 : decode cX2_addDoor 12 = .ok (.aload_n 0, 1) := by decide +kernel
theorem dX2_addDoor_13 : decode cX2_addDoor 13 = .ok (.getfield 15, 3) := by decide +kernel
theorem dX2_addDoor_16 : decode cX2_addDoor 16 = .ok (.aload_n 0, 1) := by decide +kernel
theorem dX2_addDoor_17 : decode cX2_addDoor 17 = .ok (.getfield 56, 3) := by decide +kernel
theorem dX2_addDoor_20 : decode cX2_addDoor 20 = .ok (.iload_n 2, 1) := by decide +kernel
theorem dX2_addDoor_21 : decode cX2_addDoor 21 = .ok (.invokestatic 62, 3) := by decide +kernel
theorem dX2_addDoor_24 : decode cX2_addDoor 24 = .ok (.aload_n 0, 1) := by decide +kernel
theorem dX2_addDoor_25 : decode cX2_addDoor 25 = .ok (.getfield 18, 3) := by decide +kernel
theorem dX2_addDoor_28 : decode cX2_addDoor 28 = .ok (.aload_n 0, 1) := by decide +kernel
theorem dX2_addDoor_29 : decode cX2_addDoor 29 = .ok (.getfield 56, 3) := by decide +kernel
theorem dX2_addDoor_32 : decode cX2_addDoor 32 = .ok (.iload_n 3, 1) := by decide +kernel
theorem dX2_addDoor_33 : decode cX2_addDoor 33 = .ok (.invokestatic 62, 3) := by decide +kernel
theorem dX2_addDoor_36 : decode cX2_addDoor 36 = .ok (.aload_n 0, 1) := by decide +kernel
theorem dX2_addDoor_37 : decode cX2_addDoor 37 = .ok (.dup, 1) := by decide +kernel
theorem dX2_addDoor_38 : decode cX2_addDoor 38 = .ok (.getfield 56, 3) := by decide +kernel
theorem dX2_addDoor_41 : decode cX2_addDoor 41 = .ok (.iconst 1, 1) := by decide +kernel
theorem dX2_addDoor_42 : decode cX2_addDoor 42 = .ok (.iadd, 1) := by decide +kernel
theorem dX2_addDoor_43 : decode cX2_addDoor 43 = .ok (.putfield 56, 3) := by decide +kernel
theorem dX2_addDoor_46 : decode cX2_addDoor 46 = .ok (.return_, 1) := by decide +kernel
set_option maxRecDepth 20000 in
theorem ggX2_addLodger_X6_put : GoodIn wsX2_addLodger wsX6_put := goodIn_r _ [7] (by decide +kernel) (by decide +kernel)
set_option maxRecDepth 20000 in
theorem gX2_addLodger_X6_put_n62 : GoodIn wsX2_addLodger (wsX6_put) := ggX2_addLodger_X6_put
theorem dX2_addLodger_0 : decode cX2_addLodger 0 = .ok (.aload_n 0, 1) := by decide +kernel
theorem dX2_addLodger_1 : decode cX2_addLodger 1 = .ok (.getfield 24, 3) := by decide +kernel
theorem dX2_addLodger_4 : decode cX2_addLodger 4 = .ok (.aload_n 0, 1) := by decide +kernel
theorem dX2_addLodger_5 : decode cX2_addLodger 5 = .ok (.getfield 59, 3) := by decide +kernel
theorem dX2_addLodger_8 : decode cX2_addLodger 8 = .ok (.iload_n 1, 1) := by decide +kernel
theorem dX2_addLodger_9 : decode cX2_addLodger 9 = .ok (.invokestatic 62, 3) := by decide +kernel
theorem dX2_addLodger_12 : decode cX2_addLodger 12 = .ok (.aload_n 0, 1) := by decide +kernel
theorem dX2_addLodger_13 : decode cX2_addLodger 13 = .ok (.getfield 27, 3) := by decide +kernel
theorem dX2_addLodger_16 : decode cX2_addLodger 16 = .ok (.aload_n 0, 1) := by decide +kernel
theorem dX2_addLodger_17 : decode cX2_addLodger 17 = .ok (.getfield 59, 3) := by decide +kernel
theorem dX2_addLodger_20 : decode cX2_addLodger 20 = .ok (.iload_n 2, 1) := by decide +kernel
theorem dX2_addLodger_21 : decode cX2_addLodger 21 = .ok (.invokestatic 62, 3) := by decide +kernel
theorem dX2_addLodger_24 : decode cX2_addLodger 24 = .ok (.aload_n 0, 1) := by decide +kernel
theorem dX2_addLodger_25 : decode cX2_addLodger 25 = .ok (.getfield 30, 3) := by decide +kernel
theorem dX2_addLodger_28 : decode cX2_addLodger 28 = .ok (.aload_n 0, 1) := by decide +kernel
theorem dX2_addLodger_29 : decode cX2_addLodger 29 = .ok (.getfield 59, 3) := by decide +kernel
theorem dX2_addLodger_32 : decode cX2_addLodger 32 = .ok (.iload_n 3, 1) := by decide +kernel
theorem dX2_addLodger_33 : decode cX2_addLodger 33 = .ok (.invokestatic 62, 3) := by decide +kernel
theorem dX2_addLodger_36 : decode cX2_addLodger 36 = .ok (.aload_n 0, 1) := by decide +kernel
theorem dX2_addLodger_37 : decode cX2_addLodger 37 = .ok (.dup, 1) := by decide +kernel
theorem dX2_addLodger_38 : decode cX2_addLodger 38 = .ok (.getfield 59, 3) := by decide +kernel
theorem dX2_addLodger_41 : decode cX2_addLodger 41 = .ok (.iconst 1, 1) := by decide +kernel
theorem dX2_addLodger_42 : decode cX2_addLodger 42 = .ok (.iadd, 1) := by decide +kernel
theorem dX2_addLodger_43 : decode cX2_addLodger 43 = .ok (.putfield 59, 3) := by decide +kernel
theorem dX2_addLodger_46 : decode cX2_addLodger 46 = .ok (.return_, 1) := by decide +kernel
set_option maxRecDepth 20000 in
theorem ggX2_take_X6_at : GoodIn wsX2_take wsX6_at := goodIn_r _ [3] (by decide +kernel) (by decide +kernel)
set_option maxRecDepth 20000 in
theorem gX2_take_X6_at_n66 : GoodIn wsX2_take (wsX6_at) := ggX2_take_X6_at
set_option maxRecDepth 20000 in
theorem ggX2_take_X2_takeRooms : GoodIn wsX2_take wsX2_takeRooms := goodIn_r _ [8, 9, 10, 11, 2, 12, 64, 65, 66, 67, 68, 69, 70, 71, 72, 73, 74, 75, 76, 77, 78] (by decide +kernel) (by decide +kernel)
set_option maxRecDepth 20000 in
theorem gX2_take_X2_takeRooms : GoodIn wsX2_take (wsV RX2 70 RX2 yX2_takeRooms wsX2_takeRooms) := goodIn_app (goodIn_of _ (by decide +kernel)) ggX2_take_X2_takeRooms
set_option maxRecDepth 20000 in
theorem ggX2_take_X2_takeDoor : GoodIn wsX2_take wsX2_takeDoor := goodIn_r _ [16, 10, 9, 17, 18, 19, 7, 20, 21, 22, 23, 24, 2, 25, 64, 65, 66, 67, 68, 69, 70, 71, 72, 73, 74, 75, 76, 77, 78] (by decide +kernel) (by decide +kernel)
set_option maxRecDepth 20000 in
theorem gX2_take_X2_takeDoor : GoodIn wsX2_take (wsV RX2 74 RX2 yX2_takeDoor wsX2_takeDoor) := goodIn_app (goodIn_of _ (by decide +kernel)) ggX2_take_X2_takeDoor
set_option maxRecDepth 20000 in
theorem ggX2_take_X2_takeLodger : GoodIn wsX2_take wsX2_takeLodger := goodIn_r _ [29, 30, 11, 2, 12, 31, 32, 33, 7, 34, 35, 36, 37, 24, 25, 64, 65, 66, 67, 68, 69, 70, 71, 72, 73, 74, 75, 76, 77, 78] (by decide +kernel) (by decide +kernel)
set_option maxRecDepth 20000 in
theorem gX2_take_X2_takeLodger : GoodIn wsX2_take (wsV RX2 78 RX2 yX2_takeLodger wsX2_takeLodger) := goodIn_app (goodIn_of _ (by decide +kernel)) ggX2_take_X2_takeLodger
set_option maxRecDepth 20000 in
theorem ggX2_take_X2_takeGrudge : GoodIn wsX2_take wsX2_takeGrudge := goodIn_r _ [41, 9, 30, 42, 24, 2, 25, 64, 65, 66, 67, 68, 69, 70, 71, 72, 73, 74, 75, 76, 77, 78] (by decide +kernel) (by decide +kernel)
set_option maxRecDepth 20000 in
theorem gX2_take_X2_takeGrudge : GoodIn wsX2_take (wsV RX2 81 RX2 yX2_takeGrudge wsX2_takeGrudge) := goodIn_app (goodIn_of _ (by decide +kernel)) ggX2_take_X2_takeGrudge
set_option maxRecDepth 20000 in
theorem ggX2_take_X2_takePassing : GoodIn wsX2_take wsX2_takePassing := goodIn_r _ [46, 47, 48, 64, 65, 66, 67, 68, 69, 70, 71, 72, 73, 74, 75, 76, 77, 78] (by decide +kernel) (by decide +kernel)
set_option maxRecDepth 20000 in
theorem gX2_take_X2_takePassing : GoodIn wsX2_take (wsV RX2 84 RX2 yX2_takePassing wsX2_takePassing) := goodIn_app (goodIn_of _ (by decide +kernel)) ggX2_take_X2_takePassing
set_option maxRecDepth 20000 in
theorem ggX2_take_X2_takeWear : GoodIn wsX2_take wsX2_takeWear := goodIn_r _ [52, 53, 64, 65, 66, 67, 68, 69, 70, 71, 72, 73, 74, 75, 76, 77, 78] (by decide +kernel) (by decide +kernel)
set_option maxRecDepth 20000 in
theorem gX2_take_X2_takeWear : GoodIn wsX2_take (wsV RX2 88 RX2 yX2_takeWear wsX2_takeWear) := goodIn_app (goodIn_of _ (by decide +kernel)) ggX2_take_X2_takeWear
set_option maxRecDepth 20000 in
theorem ggX2_take_X2_takeOil : GoodIn wsX2_take wsX2_takeOil := goodIn_r _ [57, 58, 11, 2, 12, 64, 65, 66, 67, 68, 69, 70, 71, 72, 73, 74, 75, 76, 77, 78] (by decide +kernel) (by decide +kernel)
set_option maxRecDepth 20000 in
theorem gX2_take_X2_takeOil : GoodIn wsX2_take (wsV RX2 91 RX2 yX2_takeOil wsX2_takeOil) := goodIn_app (goodIn_of _ (by decide +kernel)) ggX2_take_X2_takeOil
set_option maxRecDepth 20000 in
theorem ggX2_take_X2_takeDraught : GoodIn wsX2_take wsX2_takeDraught := goodIn_r _ [62, 9, 63, 24, 2, 25, 64, 65, 66, 67, 68, 69, 70, 71, 72, 73, 74, 75, 76, 77, 78] (by decide +kernel) (by decide +kernel)
set_option maxRecDepth 20000 in
theorem gX2_take_X2_takeDraught : GoodIn wsX2_take (wsV RX2 94 RX2 yX2_takeDraught wsX2_takeDraught) := goodIn_app (goodIn_of _ (by decide +kernel)) ggX2_take_X2_takeDraught
theorem dX2_take_0 : decode cX2_take 0 = .ok (.aload_n 3, 1) := by decide +kernel
theorem dX2_take_1 : decode cX2_take 1 = .ok (.iconst 0, 1) := by decide +kernel
theorem dX2_take_2 : decode cX2_take 2 = .ok (.invokestatic 66, 3) := by decide +kernel
theorem dX2_take_5 : decode cX2_take 5 = .ok (.istore 4, 2) := by decide +kernel
theorem dX2_take_7 : decode cX2_take 7 = .ok (.aload_n 3, 1) := by decide +kernel
theorem dX2_take_8 : decode cX2_take 8 = .ok (.iconst 1, 1) := by decide +kernel
theorem dX2_take_9 : decode cX2_take 9 = .ok (.invokestatic 66, 3) := by decide +kernel
theorem dX2_take_12 : decode cX2_take 12 = .ok (.istore 5, 2) := by decide +kernel
theorem dX2_take_14 : decode cX2_take 14 = .ok (.aload_n 3, 1) := by decide +kernel
theorem dX2_take_15 : decode cX2_take 15 = .ok (.iconst 2, 1) := by decide +kernel
theorem dX2_take_16 : decode cX2_take 16 = .ok (.invokestatic 66, 3) := by decide +kernel
theorem dX2_take_19 : decode cX2_take 19 = .ok (.istore 6, 2) := by decide +kernel
theorem dX2_take_21 : decode cX2_take 21 = .ok (.iload_n 1, 1) := by decide +kernel
theorem dX2_take_22 : decode cX2_take 22 = .ok (.tableswitch 270 100 119 #[114, 270, 270, 162, 270, 270, 270, 270, 138, 270, 270, 228, 186, 270, 94, 270, 270, 248, 270, 208], 94) := by decide +kernel
theorem dX2_take_116 : decode cX2_take 116 = .ok (.iload_n 2, 1) := by decide +kernel
theorem dX2_take_117 : decode cX2_take 117 = .ok (.iconst 1, 1) := by decide +kernel
theorem dX2_take_118 : decode cX2_take 118 = .ok (.if_icmp .ne 16, 3) := by decide +kernel
theorem dX2_take_121 : decode cX2_take 121 = .ok (.aload_n 0, 1) := by decide +kernel
theorem dX2_take_122 : decode cX2_take 122 = .ok (.iload 4, 2) := by decide +kernel
theorem dX2_take_124 : decode cX2_take 124 = .ok (.invokevirtual 70, 3) := by decide +kernel
theorem dX2_take_127 : decode cX2_take 127 = .ok (.ifCond .eq 7, 3) := by decide +kernel
theorem dX2_take_130 : decode cX2_take 130 = .ok (.iconst 1, 1) := by decide +kernel
theorem dX2_take_131 : decode cX2_take 131 = .ok (.goto 4, 3) := by decide +kernel
theorem dX2_take_134 : decode cX2_take 134 = .ok (.iconst 0, 1) := by decide +kernel
theorem dX2_take_135 : decode cX2_take 135 = .ok (.ireturn, 1) := by decide +kernel
theorem dX2_take_136 : decode cX2_take 136 = .ok (.iload_n 2, 1) := by decide +kernel
theorem dX2_take_137 : decode cX2_take 137 = .ok (.iconst 3, 1) := by decide +kernel
theorem dX2_take_138 : decode cX2_take 138 = .ok (.if_icmp .ne 20, 3) := by decide +kernel
theorem dX2_take_141 : decode cX2_take 141 = .ok (.aload_n 0, 1) := by decide +kernel
theorem dX2_take_142 : decode cX2_take 142 = .ok (.iload 4, 2) := by decide +kernel
theorem dX2_take_144 : decode cX2_take 144 = .ok (.iload 5, 2) := by decide +kernel
theorem dX2_take_146 : decode cX2_take 146 = .ok (.iload 6, 2) := by decide +kernel
theorem dX2_take_148 : decode cX2_take 148 = .ok (.invokevirtual 74, 3) := by decide +kernel
theorem dX2_take_151 : decode cX2_take 151 = .ok (.ifCond .eq 7, 3) := by decide +kernel
theorem dX2_take_154 : decode cX2_take 154 = .ok (.iconst 1, 1) := by decide +kernel
theorem dX2_take_155 : decode cX2_take 155 = .ok (.goto 4, 3) := by decide +kernel
theorem dX2_take_158 : decode cX2_take 158 = .ok (.iconst 0, 1) := by decide +kernel
theorem dX2_take_159 : decode cX2_take 159 = .ok (.ireturn, 1) := by decide +kernel
theorem dX2_take_160 : decode cX2_take 160 = .ok (.iload_n 2, 1) := by decide +kernel
theorem dX2_take_161 : decode cX2_take 161 = .ok (.iconst 3, 1) := by decide +kernel
theorem dX2_take_162 : decode cX2_take 162 = .ok (.if_icmp .ne 20, 3) := by decide +kernel
theorem dX2_take_165 : decode cX2_take 165 = .ok (.aload_n 0, 1) := by decide +kernel
theorem dX2_take_166 : decode cX2_take 166 = .ok (.iload 4, 2) := by decide +kernel
theorem dX2_take_168 : decode cX2_take 168 = .ok (.iload 5, 2) := by decide +kernel
theorem dX2_take_170 : decode cX2_take 170 = .ok (.iload 6, 2) := by decide +kernel
theorem dX2_take_172 : decode cX2_take 172 = .ok (.invokevirtual 78, 3) := by decide +kernel
theorem dX2_take_175 : decode cX2_take 175 = .ok (.ifCond .eq 7, 3) := by decide +kernel
theorem dX2_take_178 : decode cX2_take 178 = .ok (.iconst 1, 1) := by decide +kernel
theorem dX2_take_179 : decode cX2_take 179 = .ok (.goto 4, 3) := by decide +kernel
theorem dX2_take_182 : decode cX2_take 182 = .ok (.iconst 0, 1) := by decide +kernel
theorem dX2_take_183 : decode cX2_take 183 = .ok (.ireturn, 1) := by decide +kernel
theorem dX2_take_184 : decode cX2_take 184 = .ok (.iload_n 2, 1) := by decide +kernel
theorem dX2_take_185 : decode cX2_take 185 = .ok (.iconst 3, 1) := by decide +kernel
theorem dX2_take_186 : decode cX2_take 186 = .ok (.if_icmp .ne 20, 3) := by decide +kernel
theorem dX2_take_189 : decode cX2_take 189 = .ok (.aload_n 0, 1) := by decide +kernel
theorem dX2_take_190 : decode cX2_take 190 = .ok (.iload 4, 2) := by decide +kernel
theorem dX2_take_192 : decode cX2_take 192 = .ok (.iload 5, 2) := by decide +kernel
theorem dX2_take_194 : decode cX2_take 194 = .ok (.iload 6, 2) := by decide +kernel
theorem dX2_take_196 : decode cX2_take 196 = .ok (.invokevirtual 81, 3) := by decide +kernel
theorem dX2_take_199 : decode cX2_take 199 = .ok (.ifCond .eq 7, 3) := by decide +kernel
theorem dX2_take_202 : decode cX2_take 202 = .ok (.iconst 1, 1) := by decide +kernel
theorem dX2_take_203 : decode cX2_take 203 = .ok (.goto 4, 3) := by decide +kernel
theorem dX2_take_206 : decode cX2_take 206 = .ok (.iconst 0, 1) := by decide +kernel
theorem dX2_take_207 : decode cX2_take 207 = .ok (.ireturn, 1) := by decide +kernel
theorem dX2_take_208 : decode cX2_take 208 = .ok (.iload_n 2, 1) := by decide +kernel
theorem dX2_take_209 : decode cX2_take 209 = .ok (.iconst 2, 1) := by decide +kernel
theorem dX2_take_210 : decode cX2_take 210 = .ok (.if_icmp .ne 18, 3) := by decide +kernel
theorem dX2_take_213 : decode cX2_take 213 = .ok (.aload_n 0, 1) := by decide +kernel
theorem dX2_take_214 : decode cX2_take 214 = .ok (.iload 4, 2) := by decide +kernel
theorem dX2_take_216 : decode cX2_take 216 = .ok (.iload 5, 2) := by decide +kernel
theorem dX2_take_218 : decode cX2_take 218 = .ok (.invokevirtual 84, 3) := by decide +kernel
theorem dX2_take_221 : decode cX2_take 221 = .ok (.ifCond .eq 7, 3) := by decide +kernel
theorem dX2_take_224 : decode cX2_take 224 = .ok (.iconst 1, 1) := by decide +kernel
theorem dX2_take_225 : decode cX2_take 225 = .ok (.goto 4, 3) := by decide +kernel
theorem dX2_take_228 : decode cX2_take 228 = .ok (.iconst 0, 1) := by decide +kernel
theorem dX2_take_229 : decode cX2_take 229 = .ok (.ireturn, 1) := by decide +kernel
theorem dX2_take_230 : decode cX2_take 230 = .ok (.iload_n 2, 1) := by decide +kernel
theorem dX2_take_231 : decode cX2_take 231 = .ok (.iconst 1, 1) := by decide +kernel
theorem dX2_take_232 : decode cX2_take 232 = .ok (.if_icmp .ne 16, 3) := by decide +kernel
theorem dX2_take_235 : decode cX2_take 235 = .ok (.aload_n 0, 1) := by decide +kernel
theorem dX2_take_236 : decode cX2_take 236 = .ok (.iload 4, 2) := by decide +kernel
theorem dX2_take_238 : decode cX2_take 238 = .ok (.invokevirtual 88, 3) := by decide +kernel
theorem dX2_take_241 : decode cX2_take 241 = .ok (.ifCond .eq 7, 3) := by decide +kernel
theorem dX2_take_244 : decode cX2_take 244 = .ok (.iconst 1, 1) := by decide +kernel
theorem dX2_take_245 : decode cX2_take 245 = .ok (.goto 4, 3) := by decide +kernel
theorem dX2_take_248 : decode cX2_take 248 = .ok (.iconst 0, 1) := by decide +kernel
theorem dX2_take_249 : decode cX2_take 249 = .ok (.ireturn, 1) := by decide +kernel
theorem dX2_take_250 : decode cX2_take 250 = .ok (.iload_n 2, 1) := by decide +kernel
theorem dX2_take_251 : decode cX2_take 251 = .ok (.iconst 1, 1) := by decide +kernel
theorem dX2_take_252 : decode cX2_take 252 = .ok (.if_icmp .ne 16, 3) := by decide +kernel
theorem dX2_take_255 : decode cX2_take 255 = .ok (.aload_n 0, 1) := by decide +kernel
theorem dX2_take_256 : decode cX2_take 256 = .ok (.iload 4, 2) := by decide +kernel
theorem dX2_take_258 : decode cX2_take 258 = .ok (.invokevirtual 91, 3) := by decide +kernel
theorem dX2_take_261 : decode cX2_take 261 = .ok (.ifCond .eq 7, 3) := by decide +kernel
theorem dX2_take_264 : decode cX2_take 264 = .ok (.iconst 1, 1) := by decide +kernel
theorem dX2_take_265 : decode cX2_take 265 = .ok (.goto 4, 3) := by decide +kernel
theorem dX2_take_268 : decode cX2_take 268 = .ok (.iconst 0, 1) := by decide +kernel
theorem dX2_take_269 : decode cX2_take 269 = .ok (.ireturn, 1) := by decide +kernel
theorem dX2_take_270 : decode cX2_take 270 = .ok (.iload_n 2, 1) := by decide +kernel
theorem dX2_take_271 : decode cX2_take 271 = .ok (.iconst 2, 1) := by decide +kernel
theorem dX2_take_272 : decode cX2_take 272 = .ok (.if_icmp .ne 18, 3) := by decide +kernel
theorem dX2_take_275 : decode cX2_take 275 = .ok (.aload_n 0, 1) := by decide +kernel
theorem dX2_take_276 : decode cX2_take 276 = .ok (.iload 4, 2) := by decide +kernel
theorem dX2_take_278 : decode cX2_take 278 = .ok (.iload 5, 2) := by decide +kernel
theorem dX2_take_280 : decode cX2_take 280 = .ok (.invokevirtual 94, 3) := by decide +kernel
theorem dX2_take_283 : decode cX2_take 283 = .ok (.ifCond .eq 7, 3) := by decide +kernel
theorem dX2_take_286 : decode cX2_take 286 = .ok (.iconst 1, 1) := by decide +kernel
theorem dX2_take_287 : decode cX2_take 287 = .ok (.goto 4, 3) := by decide +kernel
theorem dX2_take_290 : decode cX2_take 290 = .ok (.iconst 0, 1) := by decide +kernel
theorem dX2_take_291 : decode cX2_take 291 = .ok (.ireturn, 1) := by decide +kernel
theorem dX2_take_292 : decode cX2_take 292 = .ok (.iconst 0, 1) := by decide +kernel
theorem dX2_take_293 : decode cX2_take 293 = .ok (.ireturn, 1) := by decide +kernel
set_option maxRecDepth 20000 in
theorem ggX2_takeRooms_X6_within : GoodIn wsX2_takeRooms wsX6_within := goodIn_r _ [5] (by decide +kernel) (by decide +kernel)
set_option maxRecDepth 20000 in
theorem gX2_takeRooms_X6_within_n97 : GoodIn wsX2_takeRooms (wsX6_within) := ggX2_takeRooms_X6_within
theorem dX2_takeRooms_0 : decode cX2_takeRooms 0 = .ok (.aload_n 0, 1) := by decide +kernel
theorem dX2_takeRooms_1 : decode cX2_takeRooms 1 = .ok (.getfield 56, 3) := by decide +kernel
theorem dX2_takeRooms_4 : decode cX2_takeRooms 4 = .ok (.ifCond .gt 13, 3) := by decide +kernel
theorem dX2_takeRooms_7 : decode cX2_takeRooms 7 = .ok (.iload_n 1, 1) := by decide +kernel
theorem dX2_takeRooms_8 : decode cX2_takeRooms 8 = .ok (.iconst 2, 1) := by decide +kernel
theorem dX2_takeRooms_9 : decode cX2_takeRooms 9 = .ok (.bipush 6, 2) := by decide +kernel
theorem dX2_takeRooms_11 : decode cX2_takeRooms 11 = .ok (.invokestatic 97, 3) := by decide +kernel
theorem dX2_takeRooms_14 : decode cX2_takeRooms 14 = .ok (.ifCond .ne 5, 3) := by decide +kernel
theorem dX2_takeRooms_17 : decode cX2_takeRooms 17 = .ok (.iconst 0, 1) := by decide +kernel
theorem dX2_takeRooms_18 : decode cX2_takeRooms 18 = .ok (.ireturn, 1) := by decide +kernel
theorem dX2_takeRooms_19 : decode cX2_takeRooms 19 = .ok (.aload_n 0, 1) := by decide +kernel
theorem dX2_takeRooms_20 : decode cX2_takeRooms 20 = .ok (.iload_n 1, 1) := by decide +kernel
theorem dX2_takeRooms_21 : decode cX2_takeRooms 21 = .ok (.putfield 36, 3) := by decide +kernel
theorem dX2_takeRooms_24 : decode cX2_takeRooms 24 = .ok (.iconst 1, 1) := by decide +kernel
theorem dX2_takeRooms_25 : decode cX2_takeRooms 25 = .ok (.ireturn, 1) := by decide +kernel
set_option maxRecDepth 20000 in
theorem ggX2_takeDoor_X2_addDoor : GoodIn wsX2_takeDoor wsX2_addDoor := goodIn_r _ [7, 8, 2, 9, 10, 11, 12, 13, 14, 15, 16, 17, 18, 19, 20, 21, 22, 23, 24, 25, 26, 27, 28] (by decide +kernel) (by decide +kernel)
set_option maxRecDepth 20000 in
theorem gX2_takeDoor_X2_addDoor : GoodIn wsX2_takeDoor (wsV RX2 100 RX2 yX2_addDoor wsX2_addDoor) := goodIn_app (goodIn_of _ (by decide +kernel)) ggX2_takeDoor_X2_addDoor
theorem dX2_takeDoor_0 : decode cX2_takeDoor 0 = .ok (.iload_n 1, 1) := by decide +kernel
theorem dX2_takeDoor_1 : decode cX2_takeDoor 1 = .ok (.iload_n 2, 1) := by decide +kernel
theorem dX2_takeDoor_2 : decode cX2_takeDoor 2 = .ok (.if_icmp .eq 29, 3) := by decide +kernel
theorem dX2_takeDoor_5 : decode cX2_takeDoor 5 = .ok (.iload_n 1, 1) := by decide +kernel
theorem dX2_takeDoor_6 : decode cX2_takeDoor 6 = .ok (.aload_n 0, 1) := by decide +kernel
theorem dX2_takeDoor_7 : decode cX2_takeDoor 7 = .ok (.getfield 36, 3) := by decide +kernel
theorem dX2_takeDoor_10 : decode cX2_takeDoor 10 = .ok (.if_icmp .ge 21, 3) := by decide +kernel
theorem dX2_takeDoor_13 : decode cX2_takeDoor 13 = .ok (.iload_n 2, 1) := by decide +kernel
theorem dX2_takeDoor_14 : decode cX2_takeDoor 14 = .ok (.aload_n 0, 1) := by decide +kernel
theorem dX2_takeDoor_15 : decode cX2_takeDoor 15 = .ok (.getfield 36, 3) := by decide +kernel
theorem dX2_takeDoor_18 : decode cX2_takeDoor 18 = .ok (.if_icmp .ge 13, 3) := by decide +kernel
theorem dX2_takeDoor_21 : decode cX2_takeDoor 21 = .ok (.iload_n 3, 1) := by decide +kernel
theorem dX2_takeDoor_22 : decode cX2_takeDoor 22 = .ok (.bipush 8, 2) := by decide +kernel
theorem dX2_takeDoor_24 : decode cX2_takeDoor 24 = .ok (.if_icmp .ge 7, 3) := by decide +kernel
theorem dX2_takeDoor_27 : decode cX2_takeDoor 27 = .ok (.iconst 1, 1) := by decide +kernel
theorem dX2_takeDoor_28 : decode cX2_takeDoor 28 = .ok (.goto 4, 3) := by decide +kernel
theorem dX2_takeDoor_31 : decode cX2_takeDoor 31 = .ok (.iconst 0, 1) := by decide +kernel
theorem dX2_takeDoor_32 : decode cX2_takeDoor 32 = .ok (.istore 4, 2) := by decide +kernel
theorem dX2_takeDoor_34 : decode cX2_takeDoor 34 = .ok (.aload_n 0, 1) := by decide +kernel
theorem dX2_takeDoor_35 : decode cX2_takeDoor 35 = .ok (.getfield 56, 3) := by decide +kernel
theorem dX2_takeDoor_38 : decode cX2_takeDoor 38 = .ok (.bipush 8, 2) := by decide +kernel
theorem dX2_takeDoor_40 : decode cX2_takeDoor 40 = .ok (.if_icmp .ge 8, 3) := by decide +kernel
theorem dX2_takeDoor_43 : decode cX2_takeDoor 43 = .ok (.iload 4, 2) := by decide +kernel
theorem dX2_takeDoor_45 : decode cX2_takeDoor 45 = .ok (.ifCond .ne 5, 3) := by decide +kernel
theorem dX2_takeDoor_48 : decode cX2_takeDoor 48 = .ok (.iconst 0, 1) := by decide +kernel
theorem dX2_takeDoor_49 : decode cX2_takeDoor 49 = .ok (.ireturn, 1) := by decide +kernel
theorem dX2_takeDoor_50 : decode cX2_takeDoor 50 = .ok (.aload_n 0, 1) := by decide +kernel
theorem dX2_takeDoor_51 : decode cX2_takeDoor 51 = .ok (.iload_n 1, 1) := by decide +kernel
theorem dX2_takeDoor_52 : decode cX2_takeDoor 52 = .ok (.iload_n 2, 1) := by decide +kernel
theorem dX2_takeDoor_53 : decode cX2_takeDoor 53 = .ok (.iload_n 3, 1) := by decide +kernel
theorem dX2_takeDoor_54 : decode cX2_takeDoor 54 = .ok (.invokevirtual 100, 3) := by decide +kernel
theorem dX2_takeDoor_57 : decode cX2_takeDoor 57 = .ok (.iconst 1, 1) := by decide +kernel
theorem dX2_takeDoor_58 : decode cX2_takeDoor 58 = .ok (.ireturn, 1) := by decide +kernel
set_option maxRecDepth 20000 in
theorem ggX2_takeLodger_X6_within : GoodIn wsX2_takeLodger wsX6_within := goodIn_r _ [4] (by decide +kernel) (by decide +kernel)
set_option maxRecDepth 20000 in
theorem gX2_takeLodger_X6_within_n97 : GoodIn wsX2_takeLodger (wsX6_within) := ggX2_takeLodger_X6_within
set_option maxRecDepth 20000 in
theorem ggX2_takeLodger_X2_addLodger : GoodIn wsX2_takeLodger wsX2_addLodger := goodIn_r _ [9, 10, 1, 11, 12, 13, 3, 14, 15, 16, 17, 18, 19, 20, 21, 22, 23, 24, 25, 26, 27, 28, 29] (by decide +kernel) (by decide +kernel)
set_option maxRecDepth 20000 in
theorem gX2_takeLodger_X2_addLodger : GoodIn wsX2_takeLodger (wsV RX2 104 RX2 yX2_addLodger wsX2_addLodger) := goodIn_app (goodIn_of _ (by decide +kernel)) ggX2_takeLodger_X2_addLodger
theorem dX2_takeLodger_0 : decode cX2_takeLodger 0 = .ok (.iload_n 1, 1) := by decide +kernel
theorem dX2_takeLodger_1 : decode cX2_takeLodger 1 = .ok (.bipush 6, 2) := by decide +kernel
theorem dX2_takeLodger_3 : decode cX2_takeLodger 3 = .ok (.if_icmp .ge 23, 3) := by decide +kernel
theorem dX2_takeLodger_6 : decode cX2_takeLodger 6 = .ok (.iload_n 2, 1) := by decide +kernel
theorem dX2_takeLodger_7 : decode cX2_takeLodger 7 = .ok (.iconst 1, 1) := by decide +kernel
theorem dX2_takeLodger_8 : decode cX2_takeLodger 8 = .ok (.bipush 20, 2) := by decide +kernel
theorem dX2_takeLodger_10 : decode cX2_takeLodger 10 = .ok (.invokestatic 97, 3) := by decide +kernel
theorem dX2_takeLodger_13 : decode cX2_takeLodger 13 = .ok (.ifCond .eq 13, 3) := by decide +kernel
theorem dX2_takeLodger_16 : decode cX2_takeLodger 16 = .ok (.iload_n 3, 1) := by decide +kernel
theorem dX2_takeLodger_17 : decode cX2_takeLodger 17 = .ok (.bipush 6, 2) := by decide +kernel
theorem dX2_takeLodger_19 : decode cX2_takeLodger 19 = .ok (.if_icmp .ge 7, 3) := by decide +kernel
theorem dX2_takeLodger_22 : decode cX2_takeLodger 22 = .ok (.iconst 1, 1) := by decide +kernel
theorem dX2_takeLodger_23 : decode cX2_takeLodger 23 = .ok (.goto 4, 3) := by decide +kernel
theorem dX2_takeLodger_26 : decode cX2_takeLodger 26 = .ok (.iconst 0, 1) := by decide +kernel
theorem dX2_takeLodger_27 : decode cX2_takeLodger 27 = .ok (.istore 4, 2) := by decide +kernel
theorem dX2_takeLodger_29 : decode cX2_takeLodger 29 = .ok (.aload_n 0, 1) := by decide +kernel
theorem dX2_takeLodger_30 : decode cX2_takeLodger 30 = .ok (.getfield 59, 3) := by decide +kernel
theorem dX2_takeLodger_33 : decode cX2_takeLodger 33 = .ok (.iconst 4, 1) := by decide +kernel
theorem dX2_takeLodger_34 : decode cX2_takeLodger 34 = .ok (.if_icmp .ge 8, 3) := by decide +kernel
theorem dX2_takeLodger_37 : decode cX2_takeLodger 37 = .ok (.iload 4, 2) := by decide +kernel
theorem dX2_takeLodger_39 : decode cX2_takeLodger 39 = .ok (.ifCond .ne 5, 3) := by decide +kernel
theorem dX2_takeLodger_42 : decode cX2_takeLodger 42 = .ok (.iconst 0, 1) := by decide +kernel
theorem dX2_takeLodger_43 : decode cX2_takeLodger 43 = .ok (.ireturn, 1) := by decide +kernel
theorem dX2_takeLodger_44 : decode cX2_takeLodger 44 = .ok (.aload_n 0, 1) := by decide +kernel
theorem dX2_takeLodger_45 : decode cX2_takeLodger 45 = .ok (.iload_n 1, 1) := by decide +kernel
theorem dX2_takeLodger_46 : decode cX2_takeLodger 46 = .ok (.iload_n 2, 1) := by decide +kernel
theorem dX2_takeLodger_47 : decode cX2_takeLodger 47 = .ok (.iload_n 3, 1) := by decide +kernel
theorem dX2_takeLodger_48 : decode cX2_takeLodger 48 = .ok (.invokevirtual 104, 3) := by decide +kernel
theorem dX2_takeLodger_51 : decode cX2_takeLodger 51 = .ok (.iconst 1, 1) := by decide +kernel
theorem dX2_takeLodger_52 : decode cX2_takeLodger 52 = .ok (.ireturn, 1) := by decide +kernel
set_option maxRecDepth 20000 in
theorem ggX2_takeGrudge_X6_put : GoodIn wsX2_takeGrudge wsX6_put := goodIn_r _ [6] (by decide +kernel) (by decide +kernel)
set_option maxRecDepth 20000 in
theorem gX2_takeGrudge_X6_put_n62 : GoodIn wsX2_takeGrudge (wsX6_put) := ggX2_takeGrudge_X6_put
theorem dX2_takeGrudge_0 : decode cX2_takeGrudge 0 = .ok (.iload_n 1, 1) := by decide +kernel
theorem dX2_takeGrudge_1 : decode cX2_takeGrudge 1 = .ok (.aload_n 0, 1) := by decide +kernel
theorem dX2_takeGrudge_2 : decode cX2_takeGrudge 2 = .ok (.getfield 56, 3) := by decide +kernel
theorem dX2_takeGrudge_5 : decode cX2_takeGrudge 5 = .ok (.if_icmp .ge 11, 3) := by decide +kernel
theorem dX2_takeGrudge_8 : decode cX2_takeGrudge 8 = .ok (.iload_n 2, 1) := by decide +kernel
theorem dX2_takeGrudge_9 : decode cX2_takeGrudge 9 = .ok (.aload_n 0, 1) := by decide +kernel
theorem dX2_takeGrudge_10 : decode cX2_takeGrudge 10 = .ok (.getfield 59, 3) := by decide +kernel
theorem dX2_takeGrudge_13 : decode cX2_takeGrudge 13 = .ok (.if_icmp .lt 5, 3) := by decide +kernel
theorem dX2_takeGrudge_16 : decode cX2_takeGrudge 16 = .ok (.iconst 0, 1) := by decide +kernel
theorem dX2_takeGrudge_17 : decode cX2_takeGrudge 17 = .ok (.ireturn, 1) := by decide +kernel
theorem dX2_takeGrudge_18 : decode cX2_takeGrudge 18 = .ok (.aload_n 0, 1) := by decide +kernel
theorem dX2_takeGrudge_19 : decode cX2_takeGrudge 19 = .ok (.getfield 33, 3) := by decide +kernel
theorem dX2_takeGrudge_22 : decode cX2_takeGrudge 22 = .ok (.iload_n 2, 1) := by decide +kernel
theorem dX2_takeGrudge_23 : decode cX2_takeGrudge 23 = .ok (.bipush 8, 2) := by decide +kernel
theorem dX2_takeGrudge_25 : decode cX2_takeGrudge 25 = .ok (.imul, 1) := by decide +kernel
theorem dX2_takeGrudge_26 : decode cX2_takeGrudge 26 = .ok (.iload_n 1, 1) := by decide +kernel
theorem dX2_takeGrudge_27 : decode cX2_takeGrudge 27 = .ok (.iadd, 1) := by decide +kernel
theorem dX2_takeGrudge_28 : decode cX2_takeGrudge 28 = .ok (.iload_n 3, 1) := by decide +kernel
theorem dX2_takeGrudge_29 : decode cX2_takeGrudge 29 = .ok (.invokestatic 62, 3) := by decide +kernel
theorem dX2_takeGrudge_32 : decode cX2_takeGrudge 32 = .ok (.iconst 1, 1) := by decide +kernel
theorem dX2_takeGrudge_33 : decode cX2_takeGrudge 33 = .ok (.ireturn, 1) := by decide +kernel
theorem dX2_takePassing_0 : decode cX2_takePassing 0 = .ok (.iload_n 1, 1) := by decide +kernel
theorem dX2_takePassing_1 : decode cX2_takePassing 1 = .ok (.bipush 10, 2) := by decide +kernel
theorem dX2_takePassing_3 : decode cX2_takePassing 3 = .ok (.if_icmp .gt 9, 3) := by decide +kernel
theorem dX2_takePassing_6 : decode cX2_takePassing 6 = .ok (.iload_n 2, 1) := by decide +kernel
theorem dX2_takePassing_7 : decode cX2_takePassing 7 = .ok (.bipush 9, 2) := by decide +kernel
theorem dX2_takePassing_9 : decode cX2_takePassing 9 = .ok (.if_icmp .le 5, 3) := by decide +kernel
theorem dX2_takePassing_12 : decode cX2_takePassing 12 = .ok (.iconst 0, 1) := by decide +kernel
theorem dX2_takePassing_13 : decode cX2_takePassing 13 = .ok (.ireturn, 1) := by decide +kernel
theorem dX2_takePassing_14 : decode cX2_takePassing 14 = .ok (.aload_n 0, 1) := by decide +kernel
theorem dX2_takePassing_15 : decode cX2_takePassing 15 = .ok (.iload_n 1, 1) := by decide +kernel
theorem dX2_takePassing_16 : decode cX2_takePassing 16 = .ok (.putfield 40, 3) := by decide +kernel
theorem dX2_takePassing_19 : decode cX2_takePassing 19 = .ok (.aload_n 0, 1) := by decide +kernel
theorem dX2_takePassing_20 : decode cX2_takePassing 20 = .ok (.iload_n 2, 1) := by decide +kernel
theorem dX2_takePassing_21 : decode cX2_takePassing 21 = .ok (.putfield 43, 3) := by decide +kernel
theorem dX2_takePassing_24 : decode cX2_takePassing 24 = .ok (.iconst 1, 1) := by decide +kernel
theorem dX2_takePassing_25 : decode cX2_takePassing 25 = .ok (.ireturn, 1) := by decide +kernel
theorem dX2_takeWear_0 : decode cX2_takeWear 0 = .ok (.iload_n 1, 1) := by decide +kernel
theorem dX2_takeWear_1 : decode cX2_takeWear 1 = .ok (.bipush 9, 2) := by decide +kernel
theorem dX2_takeWear_3 : decode cX2_takeWear 3 = .ok (.if_icmp .le 5, 3) := by decide +kernel
theorem dX2_takeWear_6 : decode cX2_takeWear 6 = .ok (.iconst 0, 1) := by decide +kernel
theorem dX2_takeWear_7 : decode cX2_takeWear 7 = .ok (.ireturn, 1) := by decide +kernel
theorem dX2_takeWear_8 : decode cX2_takeWear 8 = .ok (.aload_n 0, 1) := by decide +kernel
theorem dX2_takeWear_9 : decode cX2_takeWear 9 = .ok (.iload_n 1, 1) := by decide +kernel
theorem dX2_takeWear_10 : decode cX2_takeWear 10 = .ok (.putfield 46, 3) := by decide +kernel
theorem dX2_takeWear_13 : decode cX2_takeWear 13 = .ok (.iconst 1, 1) := by decide +kernel
theorem dX2_takeWear_14 : decode cX2_takeWear 14 = .ok (.ireturn, 1) := by decide +kernel
set_option maxRecDepth 20000 in
theorem ggX2_takeOil_X6_within : GoodIn wsX2_takeOil wsX6_within := goodIn_r _ [4] (by decide +kernel) (by decide +kernel)
set_option maxRecDepth 20000 in
theorem gX2_takeOil_X6_within_n97 : GoodIn wsX2_takeOil (wsX6_within) := ggX2_takeOil_X6_within
theorem dX2_takeOil_0 : decode cX2_takeOil 0 = .ok (.iload_n 1, 1) := by decide +kernel
theorem dX2_takeOil_1 : decode cX2_takeOil 1 = .ok (.iconst 1, 1) := by decide +kernel
theorem dX2_takeOil_2 : decode cX2_takeOil 2 = .ok (.bipush 9, 2) := by decide +kernel
theorem dX2_takeOil_4 : decode cX2_takeOil 4 = .ok (.invokestatic 97, 3) := by decide +kernel
theorem dX2_takeOil_7 : decode cX2_takeOil 7 = .ok (.ifCond .ne 5, 3) := by decide +kernel
theorem dX2_takeOil_10 : decode cX2_takeOil 10 = .ok (.iconst 0, 1) := by decide +kernel
theorem dX2_takeOil_11 : decode cX2_takeOil 11 = .ok (.ireturn, 1) := by decide +kernel
theorem dX2_takeOil_12 : decode cX2_takeOil 12 = .ok (.aload_n 0, 1) := by decide +kernel
theorem dX2_takeOil_13 : decode cX2_takeOil 13 = .ok (.iload_n 1, 1) := by decide +kernel
theorem dX2_takeOil_14 : decode cX2_takeOil 14 = .ok (.putfield 49, 3) := by decide +kernel
theorem dX2_takeOil_17 : decode cX2_takeOil 17 = .ok (.iconst 1, 1) := by decide +kernel
theorem dX2_takeOil_18 : decode cX2_takeOil 18 = .ok (.ireturn, 1) := by decide +kernel
set_option maxRecDepth 20000 in
theorem ggX2_takeDraught_X6_put : GoodIn wsX2_takeDraught wsX6_put := goodIn_r _ [5] (by decide +kernel) (by decide +kernel)
set_option maxRecDepth 20000 in
theorem gX2_takeDraught_X6_put_n62 : GoodIn wsX2_takeDraught (wsX6_put) := ggX2_takeDraught_X6_put
theorem dX2_takeDraught_0 : decode cX2_takeDraught 0 = .ok (.iload_n 1, 1) := by decide +kernel
theorem dX2_takeDraught_1 : decode cX2_takeDraught 1 = .ok (.aload_n 0, 1) := by decide +kernel
theorem dX2_takeDraught_2 : decode cX2_takeDraught 2 = .ok (.getfield 56, 3) := by decide +kernel
theorem dX2_takeDraught_5 : decode cX2_takeDraught 5 = .ok (.if_icmp .ge 9, 3) := by decide +kernel
theorem dX2_takeDraught_8 : decode cX2_takeDraught 8 = .ok (.iload_n 2, 1) := by decide +kernel
theorem dX2_takeDraught_9 : decode cX2_takeDraught 9 = .ok (.bipush 20, 2) := by decide +kernel
theorem dX2_takeDraught_11 : decode cX2_takeDraught 11 = .ok (.if_icmp .le 5, 3) := by decide +kernel
theorem dX2_takeDraught_14 : decode cX2_takeDraught 14 = .ok (.iconst 0, 1) := by decide +kernel
theorem dX2_takeDraught_15 : decode cX2_takeDraught 15 = .ok (.ireturn, 1) := by decide +kernel
theorem dX2_takeDraught_16 : decode cX2_takeDraught 16 = .ok (.aload_n 0, 1) := by decide +kernel
theorem dX2_takeDraught_17 : decode cX2_takeDraught 17 = .ok (.getfield 21, 3) := by decide +kernel
theorem dX2_takeDraught_20 : decode cX2_takeDraught 20 = .ok (.iload_n 1, 1) := by decide +kernel
theorem dX2_takeDraught_21 : decode cX2_takeDraught 21 = .ok (.iload_n 2, 1) := by decide +kernel
theorem dX2_takeDraught_22 : decode cX2_takeDraught 22 = .ok (.invokestatic 62, 3) := by decide +kernel
theorem dX2_takeDraught_25 : decode cX2_takeDraught 25 = .ok (.iconst 1, 1) := by decide +kernel
theorem dX2_takeDraught_26 : decode cX2_takeDraught 26 = .ok (.ireturn, 1) := by decide +kernel
set_option maxRecDepth 20000 in
theorem ggX2_canStand_X6_at : GoodIn wsX2_canStand wsX6_at := goodIn_r _ [9] (by decide +kernel) (by decide +kernel)
set_option maxRecDepth 20000 in
theorem gX2_canStand_X6_at_n66 : GoodIn wsX2_canStand (wsX6_at) := ggX2_canStand_X6_at
theorem dX2_canStand_0 : decode cX2_canStand 0 = .ok (.iconst 0, 1) := by decide +kernel
theorem dX2_canStand_1 : decode cX2_canStand 1 = .ok (.istore_n 1, 1) := by decide +kernel
theorem dX2_canStand_2 : decode cX2_canStand 2 = .ok (.iload_n 1, 1) := by decide +kernel
theorem dX2_canStand_3 : decode cX2_canStand 3 = .ok (.aload_n 0, 1) := by decide +kernel
theorem dX2_canStand_4 : decode cX2_canStand 4 = .ok (.getfield 56, 3) := by decide +kernel
theorem dX2_canStand_7 : decode cX2_canStand 7 = .ok (.if_icmp .ge 26, 3) := by decide +kernel
theorem dX2_canStand_10 : decode cX2_canStand 10 = .ok (.aload_n 0, 1) := by decide +kernel
theorem dX2_canStand_11 : decode cX2_canStand 11 = .ok (.getfield 18, 3) := by decide +kernel
theorem dX2_canStand_14 : decode cX2_canStand 14 = .ok (.iload_n 1, 1) := by decide +kernel
theorem dX2_canStand_15 : decode cX2_canStand 15 = .ok (.invokestatic 66, 3) := by decide +kernel
theorem dX2_canStand_18 : decode cX2_canStand 18 = .ok (.aload_n 0, 1) := by decide +kernel
theorem dX2_canStand_19 : decode cX2_canStand 19 = .ok (.getfield 56, 3) := by decide +kernel
theorem dX2_canStand_22 : decode cX2_canStand 22 = .ok (.if_icmp .lt 5, 3) := by decide +kernel
theorem dX2_canStand_25 : decode cX2_canStand 25 = .ok (.iconst 0, 1) := by decide +kernel
theorem dX2_canStand_26 : decode cX2_canStand 26 = .ok (.ireturn, 1) := by decide +kernel
theorem dX2_canStand_27 : decode cX2_canStand 27 = .ok (.iinc 1 1, 3) := by decide +kernel
theorem dX2_canStand_30 : decode cX2_canStand 30 = .ok (.goto (-28), 3) := by decide +kernel
theorem dX2_canStand_33 : decode cX2_canStand 33 = .ok (.iconst 0, 1) := by decide +kernel
theorem dX2_canStand_34 : decode cX2_canStand 34 = .ok (.istore_n 1, 1) := by decide +kernel
theorem dX2_canStand_35 : decode cX2_canStand 35 = .ok (.iload_n 1, 1) := by decide +kernel
theorem dX2_canStand_36 : decode cX2_canStand 36 = .ok (.aload_n 0, 1) := by decide +kernel
theorem dX2_canStand_37 : decode cX2_canStand 37 = .ok (.getfield 59, 3) := by decide +kernel
theorem dX2_canStand_40 : decode cX2_canStand 40 = .ok (.if_icmp .ge 41, 3) := by decide +kernel
theorem dX2_canStand_43 : decode cX2_canStand 43 = .ok (.aload_n 0, 1) := by decide +kernel
theorem dX2_canStand_44 : decode cX2_canStand 44 = .ok (.getfield 24, 3) := by decide +kernel
theorem dX2_canStand_47 : decode cX2_canStand 47 = .ok (.iload_n 1, 1) := by decide +kernel
theorem dX2_canStand_48 : decode cX2_canStand 48 = .ok (.invokestatic 66, 3) := by decide +kernel
theorem dX2_canStand_51 : decode cX2_canStand 51 = .ok (.aload_n 0, 1) := by decide +kernel
theorem dX2_canStand_52 : decode cX2_canStand 52 = .ok (.getfield 36, 3) := by decide +kernel
theorem dX2_canStand_55 : decode cX2_canStand 55 = .ok (.if_icmp .ge 18, 3) := by decide +kernel
theorem dX2_canStand_58 : decode cX2_canStand 58 = .ok (.aload_n 0, 1) := by decide +kernel
theorem dX2_canStand_59 : decode cX2_canStand 59 = .ok (.getfield 30, 3) := by decide +kernel
theorem dX2_canStand_62 : decode cX2_canStand 62 = .ok (.iload_n 1, 1) := by decide +kernel
theorem dX2_canStand_63 : decode cX2_canStand 63 = .ok (.invokestatic 66, 3) := by decide +kernel
theorem dX2_canStand_66 : decode cX2_canStand 66 = .ok (.aload_n 0, 1) := by decide +kernel
theorem dX2_canStand_67 : decode cX2_canStand 67 = .ok (.getfield 36, 3) := by decide +kernel
theorem dX2_canStand_70 : decode cX2_canStand 70 = .ok (.if_icmp .lt 5, 3) := by decide +kernel
theorem dX2_canStand_73 : decode cX2_canStand 73 = .ok (.iconst 0, 1) := by decide +kernel
theorem dX2_canStand_74 : decode cX2_canStand 74 = .ok (.ireturn, 1) := by decide +kernel
theorem dX2_canStand_75 : decode cX2_canStand 75 = .ok (.iinc 1 1, 3) := by decide +kernel
theorem dX2_canStand_78 : decode cX2_canStand 78 = .ok (.goto (-43), 3) := by decide +kernel
theorem dX2_canStand_81 : decode cX2_canStand 81 = .ok (.aload_n 0, 1) := by decide +kernel
theorem dX2_canStand_82 : decode cX2_canStand 82 = .ok (.getfield 56, 3) := by decide +kernel
theorem dX2_canStand_85 : decode cX2_canStand 85 = .ok (.ifCond .le 14, 3) := by decide +kernel
theorem dX2_canStand_88 : decode cX2_canStand 88 = .ok (.aload_n 0, 1) := by decide +kernel
theorem dX2_canStand_89 : decode cX2_canStand 89 = .ok (.getfield 59, 3) := by decide +kernel
theorem dX2_canStand_92 : decode cX2_canStand 92 = .ok (.ifCond .le 7, 3) := by decide +kernel
theorem dX2_canStand_95 : decode cX2_canStand 95 = .ok (.iconst 1, 1) := by decide +kernel
theorem dX2_canStand_96 : decode cX2_canStand 96 = .ok (.goto 4, 3) := by decide +kernel
theorem dX2_canStand_99 : decode cX2_canStand 99 = .ok (.iconst 0, 1) := by decide +kernel
theorem dX2_canStand_100 : decode cX2_canStand 100 = .ok (.ireturn, 1) := by decide +kernel
set_option maxRecDepth 20000 in
theorem ggX2_otherSide_X6_at : GoodIn wsX2_otherSide wsX6_at := goodIn_r _ [5] (by decide +kernel) (by decide +kernel)
set_option maxRecDepth 20000 in
theorem gX2_otherSide_X6_at_n66 : GoodIn wsX2_otherSide (wsX6_at) := ggX2_otherSide_X6_at
theorem dX2_otherSide_0 : decode cX2_otherSide 0 = .ok (.aload_n 0, 1) := by decide +kernel
theorem dX2_otherSide_1 : decode cX2_otherSide 1 = .ok (.getfield 9, 3) := by decide +kernel
theorem dX2_otherSide_4 : decode cX2_otherSide 4 = .ok (.iload_n 1, 1) := by decide +kernel
theorem dX2_otherSide_5 : decode cX2_otherSide 5 = .ok (.invokestatic 66, 3) := by decide +kernel
theorem dX2_otherSide_8 : decode cX2_otherSide 8 = .ok (.iload_n 2, 1) := by decide +kernel
theorem dX2_otherSide_9 : decode cX2_otherSide 9 = .ok (.if_icmp .ne 12, 3) := by decide +kernel
theorem dX2_otherSide_12 : decode cX2_otherSide 12 = .ok (.aload_n 0, 1) := by decide +kernel
theorem dX2_otherSide_13 : decode cX2_otherSide 13 = .ok (.getfield 15, 3) := by decide +kernel
theorem dX2_otherSide_16 : decode cX2_otherSide 16 = .ok (.iload_n 1, 1) := by decide +kernel
theorem dX2_otherSide_17 : decode cX2_otherSide 17 = .ok (.invokestatic 66, 3) := by decide +kernel
theorem dX2_otherSide_20 : decode cX2_otherSide 20 = .ok (.ireturn, 1) := by decide +kernel
theorem dX2_otherSide_21 : decode cX2_otherSide 21 = .ok (.aload_n 0, 1) := by decide +kernel
theorem dX2_otherSide_22 : decode cX2_otherSide 22 = .ok (.getfield 15, 3) := by decide +kernel
theorem dX2_otherSide_25 : decode cX2_otherSide 25 = .ok (.iload_n 1, 1) := by decide +kernel
theorem dX2_otherSide_26 : decode cX2_otherSide 26 = .ok (.invokestatic 66, 3) := by decide +kernel
theorem dX2_otherSide_29 : decode cX2_otherSide 29 = .ok (.iload_n 2, 1) := by decide +kernel
theorem dX2_otherSide_30 : decode cX2_otherSide 30 = .ok (.if_icmp .ne 14, 3) := by decide +kernel
theorem dX2_otherSide_33 : decode cX2_otherSide 33 = .ok (.aload_n 0, 1) := by decide +kernel
theorem dX2_otherSide_34 : decode cX2_otherSide 34 = .ok (.getfield 9, 3) := by decide +kernel
theorem dX2_otherSide_37 : decode cX2_otherSide 37 = .ok (.iload_n 1, 1) := by decide +kernel
theorem dX2_otherSide_38 : decode cX2_otherSide 38 = .ok (.invokestatic 66, 3) := by decide +kernel
theorem dX2_otherSide_41 : decode cX2_otherSide 41 = .ok (.goto 4, 3) := by decide +kernel
theorem dX2_otherSide_44 : decode cX2_otherSide 44 = .ok (.iconst (-1), 1) := by decide +kernel
theorem dX2_otherSide_45 : decode cX2_otherSide 45 = .ok (.ireturn, 1) := by decide +kernel
set_option maxRecDepth 20000 in
theorem ggX2_grudgeNext_X6_at : GoodIn wsX2_grudgeNext wsX6_at := goodIn_r _ [5] (by decide +kernel) (by decide +kernel)
set_option maxRecDepth 20000 in
theorem gX2_grudgeNext_X6_at_n66 : GoodIn wsX2_grudgeNext (wsX6_at) := ggX2_grudgeNext_X6_at
set_option maxRecDepth 20000 in
theorem ggX2_grudgeNext_X6_grown : GoodIn wsX2_grudgeNext wsX6_grown := goodIn_r _ [7, 8, 9, 10, 11] (by decide +kernel) (by decide +kernel)
set_option maxRecDepth 20000 in
theorem gX2_grudgeNext_X6_grown_n107 : GoodIn wsX2_grudgeNext (wsX6_grown) := ggX2_grudgeNext_X6_grown
set_option maxRecDepth 20000 in
theorem ggX2_grudgeNext_X6_worn : GoodIn wsX2_grudgeNext wsX6_worn := goodIn_r _ [13, 14, 15, 10, 16] (by decide +kernel) (by decide +kernel)
set_option maxRecDepth 20000 in
theorem gX2_grudgeNext_X6_worn_n111 : GoodIn wsX2_grudgeNext (wsX6_worn) := ggX2_grudgeNext_X6_worn
theorem dX2_grudgeNext_0 : decode cX2_grudgeNext 0 = .ok (.iload_n 3, 1) := by decide +kernel
theorem dX2_grudgeNext_1 : decode cX2_grudgeNext 1 = .ok (.ifCond .eq 18, 3) := by decide +kernel
theorem dX2_grudgeNext_4 : decode cX2_grudgeNext 4 = .ok (.iload_n 1, 1) := by decide +kernel
theorem dX2_grudgeNext_5 : decode cX2_grudgeNext 5 = .ok (.aload_n 0, 1) := by decide +kernel
theorem dX2_grudgeNext_6 : decode cX2_grudgeNext 6 = .ok (.getfield 27, 3) := by decide +kernel
theorem dX2_grudgeNext_9 : decode cX2_grudgeNext 9 = .ok (.iload_n 2, 1) := by decide +kernel
theorem dX2_grudgeNext_10 : decode cX2_grudgeNext 10 = .ok (.invokestatic 66, 3) := by decide +kernel
theorem dX2_grudgeNext_13 : decode cX2_grudgeNext 13 = .ok (.invokestatic 107, 3) := by decide +kernel
theorem dX2_grudgeNext_16 : decode cX2_grudgeNext 16 = .ok (.goto 11, 3) := by decide +kernel
theorem dX2_grudgeNext_19 : decode cX2_grudgeNext 19 = .ok (.iload_n 1, 1) := by decide +kernel
theorem dX2_grudgeNext_20 : decode cX2_grudgeNext 20 = .ok (.aload_n 0, 1) := by decide +kernel
theorem dX2_grudgeNext_21 : decode cX2_grudgeNext 21 = .ok (.getfield 46, 3) := by decide +kernel
theorem dX2_grudgeNext_24 : decode cX2_grudgeNext 24 = .ok (.invokestatic 111, 3) := by decide +kernel
theorem dX2_grudgeNext_27 : decode cX2_grudgeNext 27 = .ok (.ireturn, 1) := by decide +kernel
set_option maxRecDepth 20000 in
theorem ggX2_grudgeAfter_X6_at : GoodIn wsX2_grudgeAfter wsX6_at := goodIn_r _ [4] (by decide +kernel) (by decide +kernel)
set_option maxRecDepth 20000 in
theorem gX2_grudgeAfter_X6_at_n66 : GoodIn wsX2_grudgeAfter (wsX6_at) := ggX2_grudgeAfter_X6_at
set_option maxRecDepth 20000 in
theorem ggX2_grudgeAfter_X6_holds : GoodIn wsX2_grudgeAfter wsX6_holds := goodIn_r _ [6] (by decide +kernel) (by decide +kernel)
set_option maxRecDepth 20000 in
theorem gX2_grudgeAfter_X6_holds_n114 : GoodIn wsX2_grudgeAfter (wsX6_holds) := ggX2_grudgeAfter_X6_holds
set_option maxRecDepth 20000 in
theorem ggX2_grudgeAfter_X2_grudgeNext : GoodIn wsX2_grudgeAfter wsX2_grudgeNext := goodIn_r _ [11, 12, 13, 2, 3, 4, 14, 15, 16, 17, 18, 19, 20, 21, 22, 23, 24, 25, 26, 27, 28, 29, 30, 31, 32, 33, 34, 35, 36, 37, 38, 39] (by decide +kernel) (by decide +kernel)
set_option maxRecDepth 20000 in
theorem gX2_grudgeAfter_X2_grudgeNext : GoodIn wsX2_grudgeAfter (wsV RX2 117 RX2 yX2_grudgeNext wsX2_grudgeNext) := goodIn_app (goodIn_of _ (by decide +kernel)) ggX2_grudgeAfter_X2_grudgeNext
theorem dX2_grudgeAfter_0 : decode cX2_grudgeAfter 0 = .ok (.aload_n 0, 1) := by decide +kernel
theorem dX2_grudgeAfter_1 : decode cX2_grudgeAfter 1 = .ok (.getfield 33, 3) := by decide +kernel
theorem dX2_grudgeAfter_4 : decode cX2_grudgeAfter 4 = .ok (.iload_n 2, 1) := by decide +kernel
theorem dX2_grudgeAfter_5 : decode cX2_grudgeAfter 5 = .ok (.bipush 8, 2) := by decide +kernel
theorem dX2_grudgeAfter_7 : decode cX2_grudgeAfter 7 = .ok (.imul, 1) := by decide +kernel
theorem dX2_grudgeAfter_8 : decode cX2_grudgeAfter 8 = .ok (.iload_n 1, 1) := by decide +kernel
theorem dX2_grudgeAfter_9 : decode cX2_grudgeAfter 9 = .ok (.iadd, 1) := by decide +kernel
theorem dX2_grudgeAfter_10 : decode cX2_grudgeAfter 10 = .ok (.invokestatic 66, 3) := by decide +kernel
theorem dX2_grudgeAfter_13 : decode cX2_grudgeAfter 13 = .ok (.istore 5, 2) := by decide +kernel
theorem dX2_grudgeAfter_15 : decode cX2_grudgeAfter 15 = .ok (.iconst 0, 1) := by decide +kernel
theorem dX2_grudgeAfter_16 : decode cX2_grudgeAfter 16 = .ok (.istore 6, 2) := by decide +kernel
theorem dX2_grudgeAfter_18 : decode cX2_grudgeAfter 18 = .ok (.iload 6, 2) := by decide +kernel
theorem dX2_grudgeAfter_20 : decode cX2_grudgeAfter 20 = .ok (.iload_n 3, 1) := by decide +kernel
theorem dX2_grudgeAfter_21 : decode cX2_grudgeAfter 21 = .ok (.if_icmp .ge 25, 3) := by decide +kernel
theorem dX2_grudgeAfter_24 : decode cX2_grudgeAfter 24 = .ok (.aload_n 0, 1) := by decide +kernel
theorem dX2_grudgeAfter_25 : decode cX2_grudgeAfter 25 = .ok (.iload 5, 2) := by decide +kernel
theorem dX2_grudgeAfter_27 : decode cX2_grudgeAfter 27 = .ok (.iload_n 2, 1) := by decide +kernel
theorem dX2_grudgeAfter_28 : decode cX2_grudgeAfter 28 = .ok (.iload 4, 2) := by decide +kernel
theorem dX2_grudgeAfter_30 : decode cX2_grudgeAfter 30 = .ok (.iload 6, 2) := by decide +kernel
theorem dX2_grudgeAfter_32 : decode cX2_grudgeAfter 32 = .ok (.invokestatic 114, 3) := by decide +kernel
theorem dX2_grudgeAfter_35 : decode cX2_grudgeAfter 35 = .ok (.invokevirtual 117, 3) := by decide +kernel
theorem dX2_grudgeAfter_38 : decode cX2_grudgeAfter 38 = .ok (.istore 5, 2) := by decide +kernel
theorem dX2_grudgeAfter_40 : decode cX2_grudgeAfter 40 = .ok (.iinc 6 1, 3) := by decide +kernel
theorem dX2_grudgeAfter_43 : decode cX2_grudgeAfter 43 = .ok (.goto (-25), 3) := by decide +kernel
theorem dX2_grudgeAfter_46 : decode cX2_grudgeAfter 46 = .ok (.iload 5, 2) := by decide +kernel
theorem dX2_grudgeAfter_48 : decode cX2_grudgeAfter 48 = .ok (.ireturn, 1) := by decide +kernel
theorem dX3_init_0 : decode cX3_init 0 = .ok (.aload_n 0, 1) := by decide +kernel
theorem dX3_init_1 : decode cX3_init 1 = .ok (.invokespecial 3, 3) := by decide +kernel
theorem dX3_init_4 : decode cX3_init 4 = .ok (.aload_n 0, 1) := by decide +kernel
theorem dX3_init_5 : decode cX3_init 5 = .ok (.bipush 24, 2) := by decide +kernel
theorem dX3_init_7 : decode cX3_init 7 = .ok (.newarray .int, 2) := by decide +kernel
theorem dX3_init_9 : decode cX3_init 9 = .ok (.putfield 9, 3) := by decide +kernel
theorem dX3_init_12 : decode cX3_init 12 = .ok (.return_, 1) := by decide +kernel
set_option maxRecDepth 20000 in
theorem ggX3_measure_X6_at : GoodIn wsX3_measure wsX6_at := goodIn_r _ [6] (by decide +kernel) (by decide +kernel)
set_option maxRecDepth 20000 in
theorem gX3_measure_X6_at_n29 : GoodIn wsX3_measure (wsX6_at) := ggX3_measure_X6_at
set_option maxRecDepth 20000 in
theorem ggX3_measure_X5_measure : GoodIn wsX3_measure wsX5_measure := goodIn_r _ [11, 12, 13, 14, 15, 5, 16, 17, 18, 19, 20, 21, 22, 23, 24, 25, 26, 4, 6, 27, 28, 29, 30, 31, 32, 33, 34, 35, 36, 37, 38, 10, 39, 44, 45, 46, 47, 48, 49, 50, 51, 52, 53, 54, 55, 56, 57, 58, 62, 63, 64, 65, 66, 67, 68, 69] (by decide +kernel) (by decide +kernel)
set_option maxRecDepth 20000 in
theorem gX3_measure_X5_measure : GoodIn wsX3_measure (wsV RX3 33 RX5 yX5_measure wsX5_measure) := goodIn_app (goodIn_of _ (by decide +kernel)) ggX3_measure_X5_measure
set_option maxRecDepth 20000 in
theorem ggX3_measure_X5_minutesFrom : GoodIn wsX3_measure wsX5_minutesFrom := goodIn_r _ [43, 13, 14, 4, 5, 6, 62, 63] (by decide +kernel) (by decide +kernel)
set_option maxRecDepth 20000 in
theorem gX3_measure_X5_minutesFrom : GoodIn wsX3_measure (wsV RX3 39 RX5 yX5_minutesFrom wsX5_minutesFrom) := goodIn_app (goodIn_of _ (by decide +kernel)) ggX3_measure_X5_minutesFrom
set_option maxRecDepth 20000 in
theorem ggX3_measure_X6_put : GoodIn wsX3_measure wsX6_put := goodIn_r _ [33] (by decide +kernel) (by decide +kernel)
set_option maxRecDepth 20000 in
theorem gX3_measure_X6_put_n43 : GoodIn wsX3_measure (wsX6_put) := ggX3_measure_X6_put
theorem dX3_measure_0 : decode cX3_measure 0 = .ok (.aload_n 0, 1) := by decide +kernel
theorem dX3_measure_1 : decode cX3_measure 1 = .ok (.aload_n 1, 1) := by decide +kernel
theorem dX3_measure_2 : decode cX3_measure 2 = .ok (.getfield 15, 3) := by decide +kernel
theorem dX3_measure_5 : decode cX3_measure 5 = .ok (.putfield 21, 3) := by decide +kernel
theorem dX3_measure_8 : decode cX3_measure 8 = .ok (.aload_n 0, 1) := by decide +kernel
theorem dX3_measure_9 : decode cX3_measure 9 = .ok (.aload_n 1, 1) := by decide +kernel
theorem dX3_measure_10 : decode cX3_measure 10 = .ok (.getfield 22, 3) := by decide +kernel
theorem dX3_measure_13 : decode cX3_measure 13 = .ok (.putfield 25, 3) := by decide +kernel
theorem dX3_measure_16 : decode cX3_measure 16 = .ok (.iconst 0, 1) := by decide +kernel
theorem dX3_measure_17 : decode cX3_measure 17 = .ok (.istore 4, 2) := by decide +kernel
theorem dX3_measure_19 : decode cX3_measure 19 = .ok (.iload 4, 2) := by decide +kernel
theorem dX3_measure_21 : decode cX3_measure 21 = .ok (.aload_n 0, 1) := by decide +kernel
theorem dX3_measure_22 : decode cX3_measure 22 = .ok (.getfield 21, 3) := by decide +kernel
theorem dX3_measure_25 : decode cX3_measure 25 = .ok (.if_icmp .ge 66, 3) := by decide +kernel
theorem dX3_measure_28 : decode cX3_measure 28 = .ok (.aload_n 3, 1) := by decide +kernel
theorem dX3_measure_29 : decode cX3_measure 29 = .ok (.aload_n 1, 1) := by decide +kernel
theorem dX3_measure_30 : decode cX3_measure 30 = .ok (.aload_n 2, 1) := by decide +kernel
theorem dX3_measure_31 : decode cX3_measure 31 = .ok (.iload 4, 2) := by decide +kernel
theorem dX3_measure_33 : decode cX3_measure 33 = .ok (.aload_n 1, 1) := by decide +kernel
theorem dX3_measure_34 : decode cX3_measure 34 = .ok (.getfield 26, 3) := by decide +kernel
theorem dX3_measure_37 : decode cX3_measure 37 = .ok (.iload 4, 2) := by decide +kernel
theorem dX3_measure_39 : decode cX3_measure 39 = .ok (.invokestatic 29, 3) := by decide +kernel
theorem dX3_measure_42 : decode cX3_measure 42 = .ok (.iconst 0, 1) := by decide +kernel
theorem dX3_measure_43 : decode cX3_measure 43 = .ok (.invokevirtual 33, 3) := by decide +kernel
theorem dX3_measure_46 : decode cX3_measure 46 = .ok (.iconst 0, 1) := by decide +kernel
theorem dX3_measure_47 : decode cX3_measure 47 = .ok (.istore 5, 2) := by decide +kernel
theorem dX3_measure_49 : decode cX3_measure 49 = .ok (.iload 5, 2) := by decide +kernel
theorem dX3_measure_51 : decode cX3_measure 51 = .ok (.aload_n 0, 1) := by decide +kernel
theorem dX3_measure_52 : decode cX3_measure 52 = .ok (.getfield 25, 3) := by decide +kernel
theorem dX3_measure_55 : decode cX3_measure 55 = .ok (.if_icmp .ge 30, 3) := by decide +kernel
theorem dX3_measure_58 : decode cX3_measure 58 = .ok (.aload_n 0, 1) := by decide +kernel
theorem dX3_measure_59 : decode cX3_measure 59 = .ok (.getfield 9, 3) := by decide +kernel
theorem dX3_measure_62 : decode cX3_measure 62 = .ok (.iload 4, 2) := by decide +kernel
theorem dX3_measure_64 : decode cX3_measure 64 = .ok (.bipush 6, 2) := by decide +kernel
theorem dX3_measure_66 : decode cX3_measure 66 = .ok (.imul, 1) := by decide +kernel
theorem dX3_measure_67 : decode cX3_measure 67 = .ok (.iload 5, 2) := by decide +kernel
theorem dX3_measure_69 : decode cX3_measure 69 = .ok (.iadd, 1) := by decide +kernel
theorem dX3_measure_70 : decode cX3_measure 70 = .ok (.aload_n 3, 1) := by decide +kernel
theorem dX3_measure_71 : decode cX3_measure 71 = .ok (.iload 5, 2) := by decide +kernel
theorem dX3_measure_73 : decode cX3_measure 73 = .ok (.invokevirtual 39, 3) := by decide +kernel
theorem dX3_measure_76 : decode cX3_measure 76 = .ok (.invokestatic 43, 3) := by decide +kernel
theorem dX3_measure_79 : decode cX3_measure 79 = .ok (.iinc 5 1, 3) := by decide +kernel
theorem dX3_measure_82 : decode cX3_measure 82 = .ok (.goto (-33), 3) := by decide +kernel
theorem dX3_measure_85 : decode cX3_measure 85 = .ok (.iinc 4 1, 3) := by decide +kernel
theorem dX3_measure_88 : decode cX3_measure 88 = .ok (.goto (-69), 3) := by decide +kernel
theorem dX3_measure_91 : decode cX3_measure 91 = .ok (.return_, 1) := by decide +kernel
set_option maxRecDepth 20000 in
theorem ggX3_bestCode_X3_sumOf : GoodIn wsX3_bestCode wsX3_sumOf := goodIn_r _ [7, 1, 8, 9, 10, 11, 12, 13, 14, 15, 16, 17] (by decide +kernel) (by decide +kernel)
set_option maxRecDepth 20000 in
theorem gX3_bestCode_X3_sumOf : GoodIn wsX3_bestCode (wsV RX3 48 RX3 yX3_sumOf wsX3_sumOf) := goodIn_app (goodIn_of _ (by decide +kernel)) ggX3_bestCode_X3_sumOf
theorem dX3_bestCode_0 : decode cX3_bestCode 0 = .ok (.iconst 1, 1) := by decide +kernel
theorem dX3_bestCode_1 : decode cX3_bestCode 1 = .ok (.istore_n 1, 1) := by decide +kernel
theorem dX3_bestCode_2 : decode cX3_bestCode 2 = .ok (.iconst 0, 1) := by decide +kernel
theorem dX3_bestCode_3 : decode cX3_bestCode 3 = .ok (.istore_n 2, 1) := by decide +kernel
theorem dX3_bestCode_4 : decode cX3_bestCode 4 = .ok (.iload_n 2, 1) := by decide +kernel
theorem dX3_bestCode_5 : decode cX3_bestCode 5 = .ok (.aload_n 0, 1) := by decide +kernel
theorem dX3_bestCode_6 : decode cX3_bestCode 6 = .ok (.getfield 21, 3) := by decide +kernel
theorem dX3_bestCode_9 : decode cX3_bestCode 9 = .ok (.if_icmp .ge 14, 3) := by decide +kernel
theorem dX3_bestCode_12 : decode cX3_bestCode 12 = .ok (.iload_n 1, 1) := by decide +kernel
theorem dX3_bestCode_13 : decode cX3_bestCode 13 = .ok (.bipush 6, 2) := by decide +kernel
theorem dX3_bestCode_15 : decode cX3_bestCode 15 = .ok (.imul, 1) := by decide +kernel
theorem dX3_bestCode_16 : decode cX3_bestCode 16 = .ok (.istore_n 1, 1) := by decide +kernel
theorem dX3_bestCode_17 : decode cX3_bestCode 17 = .ok (.iinc 2 1, 3) := by decide +kernel
theorem dX3_bestCode_20 : decode cX3_bestCode 20 = .ok (.goto (-16), 3) := by decide +kernel
theorem dX3_bestCode_23 : decode cX3_bestCode 23 = .ok (.iconst (-1), 1) := by decide +kernel
theorem dX3_bestCode_24 : decode cX3_bestCode 24 = .ok (.istore_n 2, 1) := by decide +kernel
theorem dX3_bestCode_25 : decode cX3_bestCode 25 = .ok (.ldc 47, 2) := by decide +kernel
theorem dX3_bestCode_27 : decode cX3_bestCode 27 = .ok (.istore_n 3, 1) := by decide +kernel
theorem dX3_bestCode_28 : decode cX3_bestCode 28 = .ok (.iconst 0, 1) := by decide +kernel
theorem dX3_bestCode_29 : decode cX3_bestCode 29 = .ok (.istore 4, 2) := by decide +kernel
theorem dX3_bestCode_31 : decode cX3_bestCode 31 = .ok (.iload 4, 2) := by decide +kernel
theorem dX3_bestCode_33 : decode cX3_bestCode 33 = .ok (.iload_n 1, 1) := by decide +kernel
theorem dX3_bestCode_34 : decode cX3_bestCode 34 = .ok (.if_icmp .ge 34, 3) := by decide +kernel
theorem dX3_bestCode_37 : decode cX3_bestCode 37 = .ok (.aload_n 0, 1) := by decide +kernel
theorem dX3_bestCode_38 : decode cX3_bestCode 38 = .ok (.iload 4, 2) := by decide +kernel
theorem dX3_bestCode_40 : decode cX3_bestCode 40 = .ok (.invokevirtual 48, 3) := by decide +kernel
theorem dX3_bestCode_43 : decode cX3_bestCode 43 = .ok (.istore 5, 2) := by decide +kernel
theorem dX3_bestCode_45 : decode cX3_bestCode 45 = .ok (.iload 5, 2) := by decide +kernel
theorem dX3_bestCode_47 : decode cX3_bestCode 47 = .ok (.ifCond .lt 15, 3) := by decide +kernel
theorem dX3_bestCode_50 : decode cX3_bestCode 50 = .ok (.iload 5, 2) := by decide +kernel
theorem dX3_bestCode_52 : decode cX3_bestCode 52 = .ok (.iload_n 3, 1) := by decide +kernel
theorem dX3_bestCode_53 : decode cX3_bestCode 53 = .ok (.if_icmp .ge 9, 3) := by decide +kernel
theorem dX3_bestCode_56 : decode cX3_bestCode 56 = .ok (.iload 4, 2) := by decide +kernel
theorem dX3_bestCode_58 : decode cX3_bestCode 58 = .ok (.istore_n 2, 1) := by decide +kernel
theorem dX3_bestCode_59 : decode cX3_bestCode 59 = .ok (.iload 5, 2) := by decide +kernel
theorem dX3_bestCode_61 : decode cX3_bestCode 61 = .ok (.istore_n 3, 1) := by decide +kernel
theorem dX3_bestCode_62 : decode cX3_bestCode 62 = .ok (.iinc 4 1, 3) := by decide +kernel
theorem dX3_bestCode_65 : decode cX3_bestCode 65 = .ok (.goto (-34), 3) := by decide +kernel
theorem dX3_bestCode_68 : decode cX3_bestCode 68 = .ok (.iload_n 2, 1) := by decide +kernel
theorem dX3_bestCode_69 : decode cX3_bestCode 69 = .ok (.ireturn, 1) := by decide +kernel
set_option maxRecDepth 20000 in
theorem ggX3_sumOf_X6_at : GoodIn wsX3_sumOf wsX6_at := goodIn_r _ [6] (by decide +kernel) (by decide +kernel)
set_option maxRecDepth 20000 in
theorem gX3_sumOf_X6_at_n29 : GoodIn wsX3_sumOf (wsX6_at) := ggX3_sumOf_X6_at
set_option maxRecDepth 20000 in
theorem ggX3_sumOf_X6_holds : GoodIn wsX3_sumOf wsX6_holds := goodIn_r _ [8] (by decide +kernel) (by decide +kernel)
set_option maxRecDepth 20000 in
theorem gX3_sumOf_X6_holds_n51 : GoodIn wsX3_sumOf (wsX6_holds) := ggX3_sumOf_X6_holds
theorem dX3_sumOf_0 : decode cX3_sumOf 0 = .ok (.iconst 0, 1) := by decide +kernel
theorem dX3_sumOf_1 : decode cX3_sumOf 1 = .ok (.istore_n 2, 1) := by decide +kernel
theorem dX3_sumOf_2 : decode cX3_sumOf 2 = .ok (.iconst 0, 1) := by decide +kernel
theorem dX3_sumOf_3 : decode cX3_sumOf 3 = .ok (.istore_n 3, 1) := by decide +kernel
theorem dX3_sumOf_4 : decode cX3_sumOf 4 = .ok (.iload_n 1, 1) := by decide +kernel
theorem dX3_sumOf_5 : decode cX3_sumOf 5 = .ok (.istore 4, 2) := by decide +kernel
theorem dX3_sumOf_7 : decode cX3_sumOf 7 = .ok (.aload_n 0, 1) := by decide +kernel
theorem dX3_sumOf_8 : decode cX3_sumOf 8 = .ok (.getfield 21, 3) := by decide +kernel
theorem dX3_sumOf_11 : decode cX3_sumOf 11 = .ok (.iconst 1, 1) := by decide +kernel
theorem dX3_sumOf_12 : decode cX3_sumOf 12 = .ok (.isub, 1) := by decide +kernel
theorem dX3_sumOf_13 : decode cX3_sumOf 13 = .ok (.istore 5, 2) := by decide +kernel
theorem dX3_sumOf_15 : decode cX3_sumOf 15 = .ok (.iload 5, 2) := by decide +kernel
theorem dX3_sumOf_17 : decode cX3_sumOf 17 = .ok (.ifCond .lt 78, 3) := by decide +kernel
theorem dX3_sumOf_20 : decode cX3_sumOf 20 = .ok (.iload 4, 2) := by decide +kernel
theorem dX3_sumOf_22 : decode cX3_sumOf 22 = .ok (.bipush 6, 2) := by decide +kernel
theorem dX3_sumOf_24 : decode cX3_sumOf 24 = .ok (.irem, 1) := by decide +kernel
theorem dX3_sumOf_25 : decode cX3_sumOf 25 = .ok (.istore 6, 2) := by decide +kernel
theorem dX3_sumOf_27 : decode cX3_sumOf 27 = .ok (.iload 4, 2) := by decide +kernel
theorem dX3_sumOf_29 : decode cX3_sumOf 29 = .ok (.bipush 6, 2) := by decide +kernel
theorem dX3_sumOf_31 : decode cX3_sumOf 31 = .ok (.idiv, 1) := by decide +kernel
theorem dX3_sumOf_32 : decode cX3_sumOf 32 = .ok (.istore 4, 2) := by decide +kernel
theorem dX3_sumOf_34 : decode cX3_sumOf 34 = .ok (.aload_n 0, 1) := by decide +kernel
theorem dX3_sumOf_35 : decode cX3_sumOf 35 = .ok (.getfield 9, 3) := by decide +kernel
theorem dX3_sumOf_38 : decode cX3_sumOf 38 = .ok (.iload 5, 2) := by decide +kernel
theorem dX3_sumOf_40 : decode cX3_sumOf 40 = .ok (.bipush 6, 2) := by decide +kernel
theorem dX3_sumOf_42 : decode cX3_sumOf 42 = .ok (.imul, 1) := by decide +kernel
theorem dX3_sumOf_43 : decode cX3_sumOf 43 = .ok (.iload 6, 2) := by decide +kernel
theorem dX3_sumOf_45 : decode cX3_sumOf 45 = .ok (.iadd, 1) := by decide +kernel
theorem dX3_sumOf_46 : decode cX3_sumOf 46 = .ok (.invokestatic 29, 3) := by decide +kernel
theorem dX3_sumOf_49 : decode cX3_sumOf 49 = .ok (.istore 7, 2) := by decide +kernel
theorem dX3_sumOf_51 : decode cX3_sumOf 51 = .ok (.iload 6, 2) := by decide +kernel
theorem dX3_sumOf_53 : decode cX3_sumOf 53 = .ok (.aload_n 0, 1) := by decide +kernel
theorem dX3_sumOf_54 : decode cX3_sumOf 54 = .ok (.getfield 25, 3) := by decide +kernel
theorem dX3_sumOf_57 : decode cX3_sumOf 57 = .ok (.if_icmp .ge 17, 3) := by decide +kernel
theorem dX3_sumOf_60 : decode cX3_sumOf 60 = .ok (.iload_n 3, 1) := by decide +kernel
theorem dX3_sumOf_61 : decode cX3_sumOf 61 = .ok (.iload 6, 2) := by decide +kernel
theorem dX3_sumOf_63 : decode cX3_sumOf 63 = .ok (.invokestatic 51, 3) := by decide +kernel
theorem dX3_sumOf_66 : decode cX3_sumOf 66 = .ok (.ifCond .ne 8, 3) := by decide +kernel
theorem dX3_sumOf_69 : decode cX3_sumOf 69 = .ok (.iload 7, 2) := by decide +kernel
theorem dX3_sumOf_71 : decode cX3_sumOf 71 = .ok (.ifCond .ge 6, 3) := by decide +kernel
theorem dX3_sumOf_74 : decode cX3_sumOf 74 = .ok (.bipush (-4), 2) := by decide +kernel
theorem dX3_sumOf_76 : decode cX3_sumOf 76 = .ok (.ireturn, 1) := by decide +kernel
theorem dX3_sumOf_77 : decode cX3_sumOf 77 = .ok (.iload_n 3, 1) := by decide +kernel
theorem dX3_sumOf_78 : decode cX3_sumOf 78 = .ok (.iconst 1, 1) := by decide +kernel
theorem dX3_sumOf_79 : decode cX3_sumOf 79 = .ok (.iload 6, 2) := by decide +kernel
theorem dX3_sumOf_81 : decode cX3_sumOf 81 = .ok (.ishl, 1) := by decide +kernel
theorem dX3_sumOf_82 : decode cX3_sumOf 82 = .ok (.ior, 1) := by decide +kernel
theorem dX3_sumOf_83 : decode cX3_sumOf 83 = .ok (.istore_n 3, 1) := by decide +kernel
theorem dX3_sumOf_84 : decode cX3_sumOf 84 = .ok (.iload_n 2, 1) := by decide +kernel
theorem dX3_sumOf_85 : decode cX3_sumOf 85 = .ok (.iload 7, 2) := by decide +kernel
theorem dX3_sumOf_87 : decode cX3_sumOf 87 = .ok (.iadd, 1) := by decide +kernel
theorem dX3_sumOf_88 : decode cX3_sumOf 88 = .ok (.istore_n 2, 1) := by decide +kernel
theorem dX3_sumOf_89 : decode cX3_sumOf 89 = .ok (.iinc 5 (-1), 3) := by decide +kernel
theorem dX3_sumOf_92 : decode cX3_sumOf 92 = .ok (.goto (-77), 3) := by decide +kernel
theorem dX3_sumOf_95 : decode cX3_sumOf 95 = .ok (.iload_n 2, 1) := by decide +kernel
theorem dX3_sumOf_96 : decode cX3_sumOf 96 = .ok (.ireturn, 1) := by decide +kernel
theorem dX3_roomIn_0 : decode cX3_roomIn 0 = .ok (.iload_n 1, 1) := by decide +kernel
theorem dX3_roomIn_1 : decode cX3_roomIn 1 = .ok (.istore_n 3, 1) := by decide +kernel
theorem dX3_roomIn_2 : decode cX3_roomIn 2 = .ok (.aload_n 0, 1) := by decide +kernel
theorem dX3_roomIn_3 : decode cX3_roomIn 3 = .ok (.getfield 21, 3) := by decide +kernel
theorem dX3_roomIn_6 : decode cX3_roomIn 6 = .ok (.iconst 1, 1) := by decide +kernel
theorem dX3_roomIn_7 : decode cX3_roomIn 7 = .ok (.isub, 1) := by decide +kernel
theorem dX3_roomIn_8 : decode cX3_roomIn 8 = .ok (.istore 4, 2) := by decide +kernel
theorem dX3_roomIn_10 : decode cX3_roomIn 10 = .ok (.iload 4, 2) := by decide +kernel
theorem dX3_roomIn_12 : decode cX3_roomIn 12 = .ok (.iload_n 2, 1) := by decide +kernel
theorem dX3_roomIn_13 : decode cX3_roomIn 13 = .ok (.if_icmp .le 14, 3) := by decide +kernel
theorem dX3_roomIn_16 : decode cX3_roomIn 16 = .ok (.iload_n 3, 1) := by decide +kernel
theorem dX3_roomIn_17 : decode cX3_roomIn 17 = .ok (.bipush 6, 2) := by decide +kernel
theorem dX3_roomIn_19 : decode cX3_roomIn 19 = .ok (.idiv, 1) := by decide +kernel
theorem dX3_roomIn_20 : decode cX3_roomIn 20 = .ok (.istore_n 3, 1) := by decide +kernel
theorem dX3_roomIn_21 : decode cX3_roomIn 21 = .ok (.iinc 4 (-1), 3) := by decide +kernel
theorem dX3_roomIn_24 : decode cX3_roomIn 24 = .ok (.goto (-14), 3) := by decide +kernel
theorem dX3_roomIn_27 : decode cX3_roomIn 27 = .ok (.iload_n 3, 1) := by decide +kernel
theorem dX3_roomIn_28 : decode cX3_roomIn 28 = .ok (.bipush 6, 2) := by decide +kernel
theorem dX3_roomIn_30 : decode cX3_roomIn 30 = .ok (.irem, 1) := by decide +kernel
theorem dX3_roomIn_31 : decode cX3_roomIn 31 = .ok (.ireturn, 1) := by decide +kernel
theorem dX4_init_0 : decode cX4_init 0 = .ok (.aload_n 0, 1) := by decide +kernel
theorem dX4_init_1 : decode cX4_init 1 = .ok (.invokespecial 3, 3) := by decide +kernel
theorem dX4_init_4 : decode cX4_init 4 = .ok (.aload_n 0, 1) := by decide +kernel
theorem dX4_init_5 : decode cX4_init 5 = .ok (.sipush 300, 3) := by decide +kernel
theorem dX4_init_8 : decode cX4_init 8 = .ok (.newarray .int, 2) := by decide +kernel
theorem dX4_init_10 : decode cX4_init 10 = .ok (.putfield 9, 3) := by decide +kernel
theorem dX4_init_13 : decode cX4_init 13 = .ok (.aload_n 0, 1) := by decide +kernel
theorem dX4_init_14 : decode cX4_init 14 = .ok (.iconst 3, 1) := by decide +kernel
theorem dX4_init_15 : decode cX4_init 15 = .ok (.newarray .int, 2) := by decide +kernel
theorem dX4_init_17 : decode cX4_init 17 = .ok (.putfield 15, 3) := by decide +kernel
theorem dX4_init_20 : decode cX4_init 20 = .ok (.return_, 1) := by decide +kernel
set_option maxRecDepth 20000 in
theorem ggX4_append_X6_put : GoodIn wsX4_append wsX6_put := goodIn_r _ [5] (by decide +kernel) (by decide +kernel)
set_option maxRecDepth 20000 in
theorem gX4_append_X6_put_n22 : GoodIn wsX4_append (wsX6_put) := ggX4_append_X6_put
theorem dX4_append_0 : decode cX4_append 0 = .ok (.aload_n 0, 1) := by decide +kernel
theorem dX4_append_1 : decode cX4_append 1 = .ok (.getfield 18, 3) := by decide +kernel
theorem dX4_append_4 : decode cX4_append 4 = .ok (.sipush 300, 3) := by decide +kernel
theorem dX4_append_7 : decode cX4_append 7 = .ok (.if_icmp .ge 25, 3) := by decide +kernel
theorem dX4_append_10 : decode cX4_append 10 = .ok (.aload_n 0, 1) := by decide +kernel
theorem dX4_append_11 : decode cX4_append 11 = .ok (.getfield 9, 3) := by decide +kernel
theorem dX4_append_14 : decode cX4_append 14 = .ok (.aload_n 0, 1) := by decide +kernel
theorem dX4_append_15 : decode cX4_append 15 = .ok (.getfield 18, 3) := by decide +kernel
theorem dX4_append_18 : decode cX4_append 18 = .ok (.iload_n 1, 1) := by decide +kernel
theorem dX4_append_19 : decode cX4_append 19 = .ok (.invokestatic 22, 3) := by decide +kernel
theorem dX4_append_22 : decode cX4_append 22 = .ok (.aload_n 0, 1) := by decide +kernel
theorem dX4_append_23 : decode cX4_append 23 = .ok (.dup, 1) := by decide +kernel
theorem dX4_append_24 : decode cX4_append 24 = .ok (.getfield 18, 3) := by decide +kernel
theorem dX4_append_27 : decode cX4_append 27 = .ok (.iconst 1, 1) := by decide +kernel
theorem dX4_append_28 : decode cX4_append 28 = .ok (.iadd, 1) := by decide +kernel
theorem dX4_append_29 : decode cX4_append 29 = .ok (.putfield 18, 3) := by decide +kernel
theorem dX4_append_32 : decode cX4_append 32 = .ok (.return_, 1) := by decide +kernel
set_option maxRecDepth 20000 in
theorem ggX4_readInto_X2_clear : GoodIn wsX4_readInto wsX2_clear := goodIn_r _ [8, 9, 10, 11, 12, 13, 14, 15, 16, 17, 18, 19, 20, 103, 104, 105, 106, 107, 108, 109, 110, 111, 112, 113, 114, 115, 116, 117] (by decide +kernel) (by decide +kernel)
set_option maxRecDepth 20000 in
theorem gX4_readInto_X2_clear : GoodIn wsX4_readInto (wsV RX4 26 RX2 yX2_clear wsX2_clear) := goodIn_app (goodIn_of _ (by decide +kernel)) ggX4_readInto_X2_clear
set_option maxRecDepth 20000 in
theorem ggX4_readInto_X4_scanItem : GoodIn wsX4_readInto wsX4_scanItem := goodIn_r _ [25, 3, 2, 26, 27, 28, 24, 29, 30, 31, 32, 33, 34, 35, 36, 37, 1, 38, 39, 19, 40, 41, 42, 43, 44, 45, 46, 47, 48, 99, 100, 101, 102] (by decide +kernel) (by decide +kernel)
set_option maxRecDepth 20000 in
theorem gX4_readInto_X4_scanItem : GoodIn wsX4_readInto (wsV RX4 31 RX4 yX4_scanItem wsX4_scanItem) := goodIn_app (goodIn_of _ (by decide +kernel)) ggX4_readInto_X4_scanItem
set_option maxRecDepth 20000 in
theorem ggX4_readInto_X4_byteAt : GoodIn wsX4_readInto wsX4_byteAt := goodIn_r _ [37, 1, 38, 39, 19, 40, 99, 100, 101, 102] (by decide +kernel) (by decide +kernel)
set_option maxRecDepth 20000 in
theorem gX4_readInto_X4_byteAt : GoodIn wsX4_readInto (wsV RX4 35 RX4 yX4_byteAt wsX4_byteAt) := goodIn_app (goodIn_of _ (by decide +kernel)) ggX4_readInto_X4_byteAt
set_option maxRecDepth 20000 in
theorem ggX4_readInto_X2_take : GoodIn wsX4_readInto wsX2_take := goodIn_r _ [52, 39, 19, 40, 53, 54, 55, 7, 56, 12, 11, 41, 42, 57, 58, 59, 60, 61, 62, 63, 64, 65, 66, 67, 47, 48, 68, 69, 70, 71, 13, 72, 73, 74, 75, 76, 77, 78, 79, 80, 81, 82, 10, 83, 84, 85, 86, 14, 15, 87, 88, 89, 90, 16, 91, 92, 93, 94, 17, 95, 96, 97, 98, 9, 103, 104, 105, 106, 107, 108, 109, 110, 111, 112, 113, 114, 115, 116, 117] (by decide +kernel) (by decide +kernel)
set_option maxRecDepth 20000 in
theorem gX4_readInto_X2_take : GoodIn wsX4_readInto (wsV RX4 41 RX2 yX2_take wsX2_take) := goodIn_app (goodIn_of _ (by decide +kernel)) ggX4_readInto_X2_take
theorem dX4_readInto_0 : decode cX4_readInto 0 = .ok (.aload_n 1, 1) := by decide +kernel
theorem dX4_readInto_1 : decode cX4_readInto 1 = .ok (.invokevirtual 26, 3) := by decide +kernel
theorem dX4_readInto_4 : decode cX4_readInto 4 = .ok (.iconst 0, 1) := by decide +kernel
theorem dX4_readInto_5 : decode cX4_readInto 5 = .ok (.istore_n 2, 1) := by decide +kernel
theorem dX4_readInto_6 : decode cX4_readInto 6 = .ok (.iconst 0, 1) := by decide +kernel
theorem dX4_readInto_7 : decode cX4_readInto 7 = .ok (.istore_n 3, 1) := by decide +kernel
theorem dX4_readInto_8 : decode cX4_readInto 8 = .ok (.iload_n 3, 1) := by decide +kernel
theorem dX4_readInto_9 : decode cX4_readInto 9 = .ok (.sipush 300, 3) := by decide +kernel
theorem dX4_readInto_12 : decode cX4_readInto 12 = .ok (.if_icmp .ge 54, 3) := by decide +kernel
theorem dX4_readInto_15 : decode cX4_readInto 15 = .ok (.iload_n 2, 1) := by decide +kernel
theorem dX4_readInto_16 : decode cX4_readInto 16 = .ok (.aload_n 0, 1) := by decide +kernel
theorem dX4_readInto_17 : decode cX4_readInto 17 = .ok (.getfield 18, 3) := by decide +kernel
theorem dX4_readInto_20 : decode cX4_readInto 20 = .ok (.if_icmp .ge 46, 3) := by decide +kernel
theorem dX4_readInto_23 : decode cX4_readInto 23 = .ok (.aload_n 0, 1) := by decide +kernel
theorem dX4_readInto_24 : decode cX4_readInto 24 = .ok (.iload_n 2, 1) := by decide +kernel
theorem dX4_readInto_25 : decode cX4_readInto 25 = .ok (.invokevirtual 31, 3) := by decide +kernel
theorem dX4_readInto_28 : decode cX4_readInto 28 = .ok (.istore 4, 2) := by decide +kernel
theorem dX4_readInto_30 : decode cX4_readInto 30 = .ok (.iload 4, 2) := by decide +kernel
theorem dX4_readInto_32 : decode cX4_readInto 32 = .ok (.ifCond .lt 23, 3) := by decide +kernel
theorem dX4_readInto_35 : decode cX4_readInto 35 = .ok (.aload_n 1, 1) := by decide +kernel
theorem dX4_readInto_36 : decode cX4_readInto 36 = .ok (.aload_n 0, 1) := by decide +kernel
theorem dX4_readInto_37 : decode cX4_readInto 37 = .ok (.iload_n 2, 1) := by decide +kernel
theorem dX4_readInto_38 : decode cX4_readInto 38 = .ok (.invokevirtual 35, 3) := by decide +kernel
theorem dX4_readInto_41 : decode cX4_readInto 41 = .ok (.aload_n 0, 1) := by decide +kernel
theorem dX4_readInto_42 : decode cX4_readInto 42 = .ok (.getfield 38, 3) := by decide +kernel
theorem dX4_readInto_45 : decode cX4_readInto 45 = .ok (.aload_n 0, 1) := by decide +kernel
theorem dX4_readInto_46 : decode cX4_readInto 46 = .ok (.getfield 15, 3) := by decide +kernel
theorem dX4_readInto_49 : decode cX4_readInto 49 = .ok (.invokevirtual 41, 3) := by decide +kernel
theorem dX4_readInto_52 : decode cX4_readInto 52 = .ok (.ifCond .ne 5, 3) := by decide +kernel
theorem dX4_readInto_55 : decode cX4_readInto 55 = .ok (.iload_n 2, 1) := by decide +kernel
theorem dX4_readInto_56 : decode cX4_readInto 56 = .ok (.ireturn, 1) := by decide +kernel
theorem dX4_readInto_57 : decode cX4_readInto 57 = .ok (.iload 4, 2) := by decide +kernel
theorem dX4_readInto_59 : decode cX4_readInto 59 = .ok (.istore_n 2, 1) := by decide +kernel
theorem dX4_readInto_60 : decode cX4_readInto 60 = .ok (.iinc 3 1, 3) := by decide +kernel
theorem dX4_readInto_63 : decode cX4_readInto 63 = .ok (.goto (-55), 3) := by decide +kernel
theorem dX4_readInto_66 : decode cX4_readInto 66 = .ok (.bipush (-4), 2) := by decide +kernel
theorem dX4_readInto_68 : decode cX4_readInto 68 = .ok (.ireturn, 1) := by decide +kernel
set_option maxRecDepth 20000 in
theorem ggX4_scanItem_X4_figuresAt : GoodIn wsX4_scanItem wsX4_figuresAt := goodIn_r _ [7, 8, 9, 10, 6, 11, 12, 13, 14, 15, 16, 17, 18, 19, 20, 21, 22, 29, 30, 31, 32] (by decide +kernel) (by decide +kernel)
set_option maxRecDepth 20000 in
theorem gX4_scanItem_X4_figuresAt : GoodIn wsX4_scanItem (wsV RX4 45 RX4 yX4_figuresAt wsX4_figuresAt) := goodIn_app (goodIn_of _ (by decide +kernel)) ggX4_scanItem_X4_figuresAt
set_option maxRecDepth 20000 in
theorem ggX4_scanItem_X4_numberAt : GoodIn wsX4_scanItem wsX4_numberAt := goodIn_r _ [26, 12, 13, 14, 6, 15, 16, 17, 18, 19, 20, 29, 30, 31, 32] (by decide +kernel) (by decide +kernel)
set_option maxRecDepth 20000 in
theorem gX4_scanItem_X4_numberAt : GoodIn wsX4_scanItem (wsV RX4 48 RX4 yX4_numberAt wsX4_numberAt) := goodIn_app (goodIn_of _ (by decide +kernel)) ggX4_scanItem_X4_numberAt
set_option maxRecDepth 20000 in
theorem ggX4_scanItem_X6_put : GoodIn wsX4_scanItem wsX6_put := goodIn_r _ [28] (by decide +kernel) (by decide +kernel)
set_option maxRecDepth 20000 in
theorem gX4_scanItem_X6_put_n22 : GoodIn wsX4_scanItem (wsX6_put) := ggX4_scanItem_X6_put
set_option maxRecDepth 20000 in
theorem ggX4_scanItem_X4_byteAt : GoodIn wsX4_scanItem wsX4_byteAt := goodIn_r _ [15, 16, 17, 18, 19, 20, 29, 30, 31, 32] (by decide +kernel) (by decide +kernel)
set_option maxRecDepth 20000 in
theorem gX4_scanItem_X4_byteAt : GoodIn wsX4_scanItem (wsV RX4 35 RX4 yX4_byteAt wsX4_byteAt) := goodIn_app (goodIn_of _ (by decide +kernel)) ggX4_scanItem_X4_byteAt
theorem dX4_scanItem_0 : decode cX4_scanItem 0 = .ok (.iload_n 1, 1) := by decide +kernel
theorem dX4_scanItem_1 : decode cX4_scanItem 1 = .ok (.iconst 1, 1) := by decide +kernel
theorem dX4_scanItem_2 : decode cX4_scanItem 2 = .ok (.iadd, 1) := by decide +kernel
theorem dX4_scanItem_3 : decode cX4_scanItem 3 = .ok (.istore_n 2, 1) := by decide +kernel
theorem dX4_scanItem_4 : decode cX4_scanItem 4 = .ok (.iconst 0, 1) := by decide +kernel
theorem dX4_scanItem_5 : decode cX4_scanItem 5 = .ok (.istore_n 3, 1) := by decide +kernel
theorem dX4_scanItem_6 : decode cX4_scanItem 6 = .ok (.iload_n 3, 1) := by decide +kernel
theorem dX4_scanItem_7 : decode cX4_scanItem 7 = .ok (.iconst 3, 1) := by decide +kernel
theorem dX4_scanItem_8 : decode cX4_scanItem 8 = .ok (.if_icmp .ge 80, 3) := by decide +kernel
theorem dX4_scanItem_11 : decode cX4_scanItem 11 = .ok (.aload_n 0, 1) := by decide +kernel
theorem dX4_scanItem_12 : decode cX4_scanItem 12 = .ok (.iload_n 2, 1) := by decide +kernel
theorem dX4_scanItem_13 : decode cX4_scanItem 13 = .ok (.invokevirtual 45, 3) := by decide +kernel
theorem dX4_scanItem_16 : decode cX4_scanItem 16 = .ok (.istore 4, 2) := by decide +kernel
theorem dX4_scanItem_18 : decode cX4_scanItem 18 = .ok (.iload 4, 2) := by decide +kernel
theorem dX4_scanItem_20 : decode cX4_scanItem 20 = .ok (.ifCond .ne 5, 3) := by decide +kernel
theorem dX4_scanItem_23 : decode cX4_scanItem 23 = .ok (.iconst (-1), 1) := by decide +kernel
theorem dX4_scanItem_24 : decode cX4_scanItem 24 = .ok (.ireturn, 1) := by decide +kernel
theorem dX4_scanItem_25 : decode cX4_scanItem 25 = .ok (.aload_n 0, 1) := by decide +kernel
theorem dX4_scanItem_26 : decode cX4_scanItem 26 = .ok (.getfield 15, 3) := by decide +kernel
theorem dX4_scanItem_29 : decode cX4_scanItem 29 = .ok (.iload_n 3, 1) := by decide +kernel
theorem dX4_scanItem_30 : decode cX4_scanItem 30 = .ok (.aload_n 0, 1) := by decide +kernel
theorem dX4_scanItem_31 : decode cX4_scanItem 31 = .ok (.iload_n 2, 1) := by decide +kernel
theorem dX4_scanItem_32 : decode cX4_scanItem 32 = .ok (.iload 4, 2) := by decide +kernel
theorem dX4_scanItem_34 : decode cX4_scanItem 34 = .ok (.invokevirtual 48, 3) := by decide +kernel
theorem dX4_scanItem_37 : decode cX4_scanItem 37 = .ok (.invokestatic 22, 3) := by decide +kernel
theorem dX4_scanItem_40 : decode cX4_scanItem 40 = .ok (.aload_n 0, 1) := by decide +kernel
theorem dX4_scanItem_41 : decode cX4_scanItem 41 = .ok (.iload_n 3, 1) := by decide +kernel
theorem dX4_scanItem_42 : decode cX4_scanItem 42 = .ok (.iconst 1, 1) := by decide +kernel
theorem dX4_scanItem_43 : decode cX4_scanItem 43 = .ok (.iadd, 1) := by decide +kernel
theorem dX4_scanItem_44 : decode cX4_scanItem 44 = .ok (.putfield 38, 3) := by decide +kernel
theorem dX4_scanItem_47 : decode cX4_scanItem 47 = .ok (.aload_n 0, 1) := by decide +kernel
theorem dX4_scanItem_48 : decode cX4_scanItem 48 = .ok (.iload_n 2, 1) := by decide +kernel
theorem dX4_scanItem_49 : decode cX4_scanItem 49 = .ok (.iload 4, 2) := by decide +kernel
theorem dX4_scanItem_51 : decode cX4_scanItem 51 = .ok (.iadd, 1) := by decide +kernel
theorem dX4_scanItem_52 : decode cX4_scanItem 52 = .ok (.invokevirtual 35, 3) := by decide +kernel
theorem dX4_scanItem_55 : decode cX4_scanItem 55 = .ok (.istore 5, 2) := by decide +kernel
theorem dX4_scanItem_57 : decode cX4_scanItem 57 = .ok (.iload_n 2, 1) := by decide +kernel
theorem dX4_scanItem_58 : decode cX4_scanItem 58 = .ok (.iload 4, 2) := by decide +kernel
theorem dX4_scanItem_60 : decode cX4_scanItem 60 = .ok (.iconst 1, 1) := by decide +kernel
theorem dX4_scanItem_61 : decode cX4_scanItem 61 = .ok (.iadd, 1) := by decide +kernel
theorem dX4_scanItem_62 : decode cX4_scanItem 62 = .ok (.iadd, 1) := by decide +kernel
theorem dX4_scanItem_63 : decode cX4_scanItem 63 = .ok (.istore_n 2, 1) := by decide +kernel
theorem dX4_scanItem_64 : decode cX4_scanItem 64 = .ok (.iload 5, 2) := by decide +kernel
theorem dX4_scanItem_66 : decode cX4_scanItem 66 = .ok (.bipush 59, 2) := by decide +kernel
theorem dX4_scanItem_68 : decode cX4_scanItem 68 = .ok (.if_icmp .ne 5, 3) := by decide +kernel
theorem dX4_scanItem_71 : decode cX4_scanItem 71 = .ok (.iload_n 2, 1) := by decide +kernel
theorem dX4_scanItem_72 : decode cX4_scanItem 72 = .ok (.ireturn, 1) := by decide +kernel
theorem dX4_scanItem_73 : decode cX4_scanItem 73 = .ok (.iload 5, 2) := by decide +kernel
theorem dX4_scanItem_75 : decode cX4_scanItem 75 = .ok (.bipush 44, 2) := by decide +kernel
theorem dX4_scanItem_77 : decode cX4_scanItem 77 = .ok (.if_icmp .eq 5, 3) := by decide +kernel
theorem dX4_scanItem_80 : decode cX4_scanItem 80 = .ok (.iconst (-1), 1) := by decide +kernel
theorem dX4_scanItem_81 : decode cX4_scanItem 81 = .ok (.ireturn, 1) := by decide +kernel
theorem dX4_scanItem_82 : decode cX4_scanItem 82 = .ok (.iinc 3 1, 3) := by decide +kernel
theorem dX4_scanItem_85 : decode cX4_scanItem 85 = .ok (.goto (-79), 3) := by decide +kernel
theorem dX4_scanItem_88 : decode cX4_scanItem 88 = .ok (.iconst (-1), 1) := by decide +kernel
theorem dX4_scanItem_89 : decode cX4_scanItem 89 = .ok (.ireturn, 1) := by decide +kernel
set_option maxRecDepth 20000 in
theorem ggX4_figuresAt_X4_isFigure : GoodIn wsX4_figuresAt wsX4_isFigure := goodIn_r _ [5, 6, 7, 8, 4, 9, 10, 11, 12, 13, 14, 15, 16, 17, 18, 19, 20] (by decide +kernel) (by decide +kernel)
set_option maxRecDepth 20000 in
theorem gX4_figuresAt_X4_isFigure : GoodIn wsX4_figuresAt (wsV RX4 52 RX4 yX4_isFigure wsX4_isFigure) := goodIn_app (goodIn_of _ (by decide +kernel)) ggX4_figuresAt_X4_isFigure
theorem dX4_figuresAt_0 : decode cX4_figuresAt 0 = .ok (.aload_n 0, 1) := by decide +kernel
theorem dX4_figuresAt_1 : decode cX4_figuresAt 1 = .ok (.iload_n 1, 1) := by decide +kernel
theorem dX4_figuresAt_2 : decode cX4_figuresAt 2 = .ok (.invokevirtual 52, 3) := by decide +kernel
theorem dX4_figuresAt_5 : decode cX4_figuresAt 5 = .ok (.ifCond .ne 5, 3) := by decide +kernel
theorem dX4_figuresAt_8 : decode cX4_figuresAt 8 = .ok (.iconst 0, 1) := by decide +kernel
theorem dX4_figuresAt_9 : decode cX4_figuresAt 9 = .ok (.ireturn, 1) := by decide +kernel
theorem dX4_figuresAt_10 : decode cX4_figuresAt 10 = .ok (.aload_n 0, 1) := by decide +kernel
theorem dX4_figuresAt_11 : decode cX4_figuresAt 11 = .ok (.iload_n 1, 1) := by decide +kernel
theorem dX4_figuresAt_12 : decode cX4_figuresAt 12 = .ok (.iconst 1, 1) := by decide +kernel
theorem dX4_figuresAt_13 : decode cX4_figuresAt 13 = .ok (.iadd, 1) := by decide +kernel
theorem dX4_figuresAt_14 : decode cX4_figuresAt 14 = .ok (.invokevirtual 52, 3) := by decide +kernel
theorem dX4_figuresAt_17 : decode cX4_figuresAt 17 = .ok (.ifCond .eq 7, 3) := by decide +kernel
theorem dX4_figuresAt_20 : decode cX4_figuresAt 20 = .ok (.iconst 2, 1) := by decide +kernel
theorem dX4_figuresAt_21 : decode cX4_figuresAt 21 = .ok (.goto 4, 3) := by decide +kernel
theorem dX4_figuresAt_24 : decode cX4_figuresAt 24 = .ok (.iconst 1, 1) := by decide +kernel
theorem dX4_figuresAt_25 : decode cX4_figuresAt 25 = .ok (.ireturn, 1) := by decide +kernel
set_option maxRecDepth 20000 in
theorem ggX4_numberAt_X4_byteAt : GoodIn wsX4_numberAt wsX4_byteAt := goodIn_r _ [5, 6, 7, 8, 9, 10, 11, 12, 13, 14] (by decide +kernel) (by decide +kernel)
set_option maxRecDepth 20000 in
theorem gX4_numberAt_X4_byteAt : GoodIn wsX4_numberAt (wsV RX4 35 RX4 yX4_byteAt wsX4_byteAt) := goodIn_app (goodIn_of _ (by decide +kernel)) ggX4_numberAt_X4_byteAt
theorem dX4_numberAt_0 : decode cX4_numberAt 0 = .ok (.aload_n 0, 1) := by decide +kernel
theorem dX4_numberAt_1 : decode cX4_numberAt 1 = .ok (.iload_n 1, 1) := by decide +kernel
theorem dX4_numberAt_2 : decode cX4_numberAt 2 = .ok (.invokevirtual 35, 3) := by decide +kernel
theorem dX4_numberAt_5 : decode cX4_numberAt 5 = .ok (.bipush 48, 2) := by decide +kernel
theorem dX4_numberAt_7 : decode cX4_numberAt 7 = .ok (.isub, 1) := by decide +kernel
theorem dX4_numberAt_8 : decode cX4_numberAt 8 = .ok (.istore_n 3, 1) := by decide +kernel
theorem dX4_numberAt_9 : decode cX4_numberAt 9 = .ok (.iload_n 2, 1) := by decide +kernel
theorem dX4_numberAt_10 : decode cX4_numberAt 10 = .ok (.iconst 2, 1) := by decide +kernel
theorem dX4_numberAt_11 : decode cX4_numberAt 11 = .ok (.if_icmp .ne 21, 3) := by decide +kernel
theorem dX4_numberAt_14 : decode cX4_numberAt 14 = .ok (.iload_n 3, 1) := by decide +kernel
theorem dX4_numberAt_15 : decode cX4_numberAt 15 = .ok (.bipush 10, 2) := by decide +kernel
theorem dX4_numberAt_17 : decode cX4_numberAt 17 = .ok (.imul, 1) := by decide +kernel
theorem dX4_numberAt_18 : decode cX4_numberAt 18 = .ok (.aload_n 0, 1) := by decide +kernel
theorem dX4_numberAt_19 : decode cX4_numberAt 19 = .ok (.iload_n 1, 1) := by decide +kernel
theorem dX4_numberAt_20 : decode cX4_numberAt 20 = .ok (.iconst 1, 1) := by decide +kernel
theorem dX4_numberAt_21 : decode cX4_numberAt 21 = .ok (.iadd, 1) := by decide +kernel
theorem dX4_numberAt_22 : decode cX4_numberAt 22 = .ok (.invokevirtual 35, 3) := by decide +kernel
theorem dX4_numberAt_25 : decode cX4_numberAt 25 = .ok (.iadd, 1) := by decide +kernel
theorem dX4_numberAt_26 : decode cX4_numberAt 26 = .ok (.bipush 48, 2) := by decide +kernel
theorem dX4_numberAt_28 : decode cX4_numberAt 28 = .ok (.isub, 1) := by decide +kernel
theorem dX4_numberAt_29 : decode cX4_numberAt 29 = .ok (.goto 4, 3) := by decide +kernel
theorem dX4_numberAt_32 : decode cX4_numberAt 32 = .ok (.iload_n 3, 1) := by decide +kernel
theorem dX4_numberAt_33 : decode cX4_numberAt 33 = .ok (.ireturn, 1) := by decide +kernel
set_option maxRecDepth 20000 in
theorem ggX4_byteAt_X6_at : GoodIn wsX4_byteAt wsX6_at := goodIn_r _ [5] (by decide +kernel) (by decide +kernel)
set_option maxRecDepth 20000 in
theorem gX4_byteAt_X6_at_n56 : GoodIn wsX4_byteAt (wsX6_at) := ggX4_byteAt_X6_at
theorem dX4_byteAt_0 : decode cX4_byteAt 0 = .ok (.iload_n 1, 1) := by decide +kernel
theorem dX4_byteAt_1 : decode cX4_byteAt 1 = .ok (.aload_n 0, 1) := by decide +kernel
theorem dX4_byteAt_2 : decode cX4_byteAt 2 = .ok (.getfield 18, 3) := by decide +kernel
theorem dX4_byteAt_5 : decode cX4_byteAt 5 = .ok (.if_icmp .ge 14, 3) := by decide +kernel
theorem dX4_byteAt_8 : decode cX4_byteAt 8 = .ok (.aload_n 0, 1) := by decide +kernel
theorem dX4_byteAt_9 : decode cX4_byteAt 9 = .ok (.getfield 9, 3) := by decide +kernel
theorem dX4_byteAt_12 : decode cX4_byteAt 12 = .ok (.iload_n 1, 1) := by decide +kernel
theorem dX4_byteAt_13 : decode cX4_byteAt 13 = .ok (.invokestatic 56, 3) := by decide +kernel
theorem dX4_byteAt_16 : decode cX4_byteAt 16 = .ok (.goto 4, 3) := by decide +kernel
theorem dX4_byteAt_19 : decode cX4_byteAt 19 = .ok (.iconst (-1), 1) := by decide +kernel
theorem dX4_byteAt_20 : decode cX4_byteAt 20 = .ok (.ireturn, 1) := by decide +kernel
set_option maxRecDepth 20000 in
theorem ggX4_isFigure_X4_byteAt : GoodIn wsX4_isFigure wsX4_byteAt := goodIn_r _ [5, 6, 7, 8, 9, 10, 13, 14, 15, 16] (by decide +kernel) (by decide +kernel)
set_option maxRecDepth 20000 in
theorem gX4_isFigure_X4_byteAt : GoodIn wsX4_isFigure (wsV RX4 35 RX4 yX4_byteAt wsX4_byteAt) := goodIn_app (goodIn_of _ (by decide +kernel)) ggX4_isFigure_X4_byteAt
set_option maxRecDepth 20000 in
theorem ggX4_isFigure_X6_within : GoodIn wsX4_isFigure wsX6_within := goodIn_r _ [12] (by decide +kernel) (by decide +kernel)
set_option maxRecDepth 20000 in
theorem gX4_isFigure_X6_within_n60 : GoodIn wsX4_isFigure (wsX6_within) := ggX4_isFigure_X6_within
theorem dX4_isFigure_0 : decode cX4_isFigure 0 = .ok (.aload_n 0, 1) := by decide +kernel
theorem dX4_isFigure_1 : decode cX4_isFigure 1 = .ok (.iload_n 1, 1) := by decide +kernel
theorem dX4_isFigure_2 : decode cX4_isFigure 2 = .ok (.invokevirtual 35, 3) := by decide +kernel
theorem dX4_isFigure_5 : decode cX4_isFigure 5 = .ok (.bipush 48, 2) := by decide +kernel
theorem dX4_isFigure_7 : decode cX4_isFigure 7 = .ok (.bipush 57, 2) := by decide +kernel
theorem dX4_isFigure_9 : decode cX4_isFigure 9 = .ok (.invokestatic 60, 3) := by decide +kernel
theorem dX4_isFigure_12 : decode cX4_isFigure 12 = .ok (.ireturn, 1) := by decide +kernel
theorem dX5_init_0 : decode cX5_init 0 = .ok (.aload_n 0, 1) := by decide +kernel
theorem dX5_init_1 : decode cX5_init 1 = .ok (.invokespecial 3, 3) := by decide +kernel
theorem dX5_init_4 : decode cX5_init 4 = .ok (.aload_n 0, 1) := by decide +kernel
theorem dX5_init_5 : decode cX5_init 5 = .ok (.bipush 6, 2) := by decide +kernel
theorem dX5_init_7 : decode cX5_init 7 = .ok (.newarray .int, 2) := by decide +kernel
theorem dX5_init_9 : decode cX5_init 9 = .ok (.putfield 9, 3) := by decide +kernel
theorem dX5_init_12 : decode cX5_init 12 = .ok (.aload_n 0, 1) := by decide +kernel
theorem dX5_init_13 : decode cX5_init 13 = .ok (.bipush 8, 2) := by decide +kernel
theorem dX5_init_15 : decode cX5_init 15 = .ok (.newarray .int, 2) := by decide +kernel
theorem dX5_init_17 : decode cX5_init 17 = .ok (.putfield 15, 3) := by decide +kernel
theorem dX5_init_20 : decode cX5_init 20 = .ok (.return_, 1) := by decide +kernel
set_option maxRecDepth 20000 in
theorem ggX5_measure_X6_holds : GoodIn wsX5_measure wsX6_holds := goodIn_r _ [6] (by decide +kernel) (by decide +kernel)
set_option maxRecDepth 20000 in
theorem gX5_measure_X6_holds_n24 : GoodIn wsX5_measure (wsX6_holds) := ggX5_measure_X6_holds
set_option maxRecDepth 20000 in
theorem ggX5_measure_X0_minutesThrough : GoodIn wsX5_measure wsX0_minutesThrough := goodIn_r _ [11, 12, 13, 14, 10, 15, 16, 17, 5, 18, 19, 20, 21, 22, 23, 50, 51, 52, 53, 54, 55] (by decide +kernel) (by decide +kernel)
set_option maxRecDepth 20000 in
theorem gX5_measure_X0_minutesThrough : GoodIn wsX5_measure (wsV RX5 28 RX0 yX0_minutesThrough wsX0_minutesThrough) := goodIn_app (goodIn_of _ (by decide +kernel)) ggX5_measure_X0_minutesThrough
set_option maxRecDepth 20000 in
theorem ggX5_measure_X6_put : GoodIn wsX5_measure wsX6_put := goodIn_r _ [25] (by decide +kernel) (by decide +kernel)
set_option maxRecDepth 20000 in
theorem gX5_measure_X6_put_n34 : GoodIn wsX5_measure (wsX6_put) := ggX5_measure_X6_put
set_option maxRecDepth 20000 in
theorem ggX5_measure_X6_fill : GoodIn wsX5_measure wsX6_fill := goodIn_r _ [27] (by decide +kernel) (by decide +kernel)
set_option maxRecDepth 20000 in
theorem gX5_measure_X6_fill_n39 : GoodIn wsX5_measure (wsX6_fill) := ggX5_measure_X6_fill
set_option maxRecDepth 20000 in
theorem ggX5_measure_X5_shorten : GoodIn wsX5_measure wsX5_shorten := goodIn_r _ [32, 2, 1, 17, 5, 18, 24, 25, 33, 34, 35, 36, 37, 38, 39, 40, 41, 42, 43, 44, 45, 46, 47, 48, 49] (by decide +kernel) (by decide +kernel)
set_option maxRecDepth 20000 in
theorem gX5_measure_X5_shorten : GoodIn wsX5_measure (wsV RX5 46 RX5 yX5_shorten wsX5_shorten) := goodIn_app (goodIn_of _ (by decide +kernel)) ggX5_measure_X5_shorten
theorem dX5_measure_0 : decode cX5_measure 0 = .ok (.iconst 0, 1) := by decide +kernel
theorem dX5_measure_1 : decode cX5_measure 1 = .ok (.istore 6, 2) := by decide +kernel
theorem dX5_measure_3 : decode cX5_measure 3 = .ok (.iload 6, 2) := by decide +kernel
theorem dX5_measure_5 : decode cX5_measure 5 = .ok (.aload_n 1, 1) := by decide +kernel
theorem dX5_measure_6 : decode cX5_measure 6 = .ok (.getfield 18, 3) := by decide +kernel
theorem dX5_measure_9 : decode cX5_measure 9 = .ok (.if_icmp .ge 39, 3) := by decide +kernel
theorem dX5_measure_12 : decode cX5_measure 12 = .ok (.aload_n 0, 1) := by decide +kernel
theorem dX5_measure_13 : decode cX5_measure 13 = .ok (.getfield 15, 3) := by decide +kernel
theorem dX5_measure_16 : decode cX5_measure 16 = .ok (.iload 6, 2) := by decide +kernel
theorem dX5_measure_18 : decode cX5_measure 18 = .ok (.iload 5, 2) := by decide +kernel
theorem dX5_measure_20 : decode cX5_measure 20 = .ok (.iload 6, 2) := by decide +kernel
theorem dX5_measure_22 : decode cX5_measure 22 = .ok (.invokestatic 24, 3) := by decide +kernel
theorem dX5_measure_25 : decode cX5_measure 25 = .ok (.ifCond .eq 7, 3) := by decide +kernel
theorem dX5_measure_28 : decode cX5_measure 28 = .ok (.iconst 1, 1) := by decide +kernel
theorem dX5_measure_29 : decode cX5_measure 29 = .ok (.goto 10, 3) := by decide +kernel
theorem dX5_measure_32 : decode cX5_measure 32 = .ok (.aload_n 2, 1) := by decide +kernel
theorem dX5_measure_33 : decode cX5_measure 33 = .ok (.iload 6, 2) := by decide +kernel
theorem dX5_measure_35 : decode cX5_measure 35 = .ok (.iload_n 3, 1) := by decide +kernel
theorem dX5_measure_36 : decode cX5_measure 36 = .ok (.invokevirtual 28, 3) := by decide +kernel
theorem dX5_measure_39 : decode cX5_measure 39 = .ok (.invokestatic 34, 3) := by decide +kernel
theorem dX5_measure_42 : decode cX5_measure 42 = .ok (.iinc 6 1, 3) := by decide +kernel
theorem dX5_measure_45 : decode cX5_measure 45 = .ok (.goto (-42), 3) := by decide +kernel
theorem dX5_measure_48 : decode cX5_measure 48 = .ok (.aload_n 0, 1) := by decide +kernel
theorem dX5_measure_49 : decode cX5_measure 49 = .ok (.getfield 9, 3) := by decide +kernel
theorem dX5_measure_52 : decode cX5_measure 52 = .ok (.ldc 38, 2) := by decide +kernel
theorem dX5_measure_54 : decode cX5_measure 54 = .ok (.invokestatic 39, 3) := by decide +kernel
theorem dX5_measure_57 : decode cX5_measure 57 = .ok (.aload_n 0, 1) := by decide +kernel
theorem dX5_measure_58 : decode cX5_measure 58 = .ok (.getfield 9, 3) := by decide +kernel
theorem dX5_measure_61 : decode cX5_measure 61 = .ok (.iload 4, 2) := by decide +kernel
theorem dX5_measure_63 : decode cX5_measure 63 = .ok (.iconst 0, 1) := by decide +kernel
theorem dX5_measure_64 : decode cX5_measure 64 = .ok (.invokestatic 34, 3) := by decide +kernel
theorem dX5_measure_67 : decode cX5_measure 67 = .ok (.iconst 1, 1) := by decide +kernel
theorem dX5_measure_68 : decode cX5_measure 68 = .ok (.istore 6, 2) := by decide +kernel
theorem dX5_measure_70 : decode cX5_measure 70 = .ok (.iconst 1, 1) := by decide +kernel
theorem dX5_measure_71 : decode cX5_measure 71 = .ok (.istore 7, 2) := by decide +kernel
theorem dX5_measure_73 : decode cX5_measure 73 = .ok (.iload 7, 2) := by decide +kernel
theorem dX5_measure_75 : decode cX5_measure 75 = .ok (.aload_n 1, 1) := by decide +kernel
theorem dX5_measure_76 : decode cX5_measure 76 = .ok (.getfield 43, 3) := by decide +kernel
theorem dX5_measure_79 : decode cX5_measure 79 = .ok (.if_icmp .ge 21, 3) := by decide +kernel
theorem dX5_measure_82 : decode cX5_measure 82 = .ok (.iload 6, 2) := by decide +kernel
theorem dX5_measure_84 : decode cX5_measure 84 = .ok (.ifCond .eq 16, 3) := by decide +kernel
theorem dX5_measure_87 : decode cX5_measure 87 = .ok (.aload_n 0, 1) := by decide +kernel
theorem dX5_measure_88 : decode cX5_measure 88 = .ok (.aload_n 1, 1) := by decide +kernel
theorem dX5_measure_89 : decode cX5_measure 89 = .ok (.invokevirtual 46, 3) := by decide +kernel
theorem dX5_measure_92 : decode cX5_measure 92 = .ok (.istore 6, 2) := by decide +kernel
theorem dX5_measure_94 : decode cX5_measure 94 = .ok (.iinc 7 1, 3) := by decide +kernel
theorem dX5_measure_97 : decode cX5_measure 97 = .ok (.goto (-24), 3) := by decide +kernel
theorem dX5_measure_100 : decode cX5_measure 100 = .ok (.return_, 1) := by decide +kernel
set_option maxRecDepth 20000 in
theorem ggX5_shorten_X6_at : GoodIn wsX5_shorten wsX6_at := goodIn_r _ [5] (by decide +kernel) (by decide +kernel)
set_option maxRecDepth 20000 in
theorem gX5_shorten_X6_at_n53 : GoodIn wsX5_shorten (wsX6_at) := ggX5_shorten_X6_at
set_option maxRecDepth 20000 in
theorem ggX5_shorten_X6_put : GoodIn wsX5_shorten wsX6_put := goodIn_r _ [7] (by decide +kernel) (by decide +kernel)
set_option maxRecDepth 20000 in
theorem gX5_shorten_X6_put_n34 : GoodIn wsX5_shorten (wsX6_put) := ggX5_shorten_X6_put
theorem dX5_shorten_0 : decode cX5_shorten 0 = .ok (.iconst 0, 1) := by decide +kernel
theorem dX5_shorten_1 : decode cX5_shorten 1 = .ok (.istore_n 2, 1) := by decide +kernel
theorem dX5_shorten_2 : decode cX5_shorten 2 = .ok (.iconst 0, 1) := by decide +kernel
theorem dX5_shorten_3 : decode cX5_shorten 3 = .ok (.istore_n 3, 1) := by decide +kernel
theorem dX5_shorten_4 : decode cX5_shorten 4 = .ok (.iload_n 3, 1) := by decide +kernel
theorem dX5_shorten_5 : decode cX5_shorten 5 = .ok (.aload_n 1, 1) := by decide +kernel
theorem dX5_shorten_6 : decode cX5_shorten 6 = .ok (.getfield 18, 3) := by decide +kernel
theorem dX5_shorten_9 : decode cX5_shorten 9 = .ok (.if_icmp .ge 126, 3) := by decide +kernel
theorem dX5_shorten_12 : decode cX5_shorten 12 = .ok (.aload_n 1, 1) := by decide +kernel
theorem dX5_shorten_13 : decode cX5_shorten 13 = .ok (.getfield 50, 3) := by decide +kernel
theorem dX5_shorten_16 : decode cX5_shorten 16 = .ok (.iload_n 3, 1) := by decide +kernel
theorem dX5_shorten_17 : decode cX5_shorten 17 = .ok (.invokestatic 53, 3) := by decide +kernel
theorem dX5_shorten_20 : decode cX5_shorten 20 = .ok (.istore 4, 2) := by decide +kernel
theorem dX5_shorten_22 : decode cX5_shorten 22 = .ok (.aload_n 1, 1) := by decide +kernel
theorem dX5_shorten_23 : decode cX5_shorten 23 = .ok (.getfield 57, 3) := by decide +kernel
theorem dX5_shorten_26 : decode cX5_shorten 26 = .ok (.iload_n 3, 1) := by decide +kernel
theorem dX5_shorten_27 : decode cX5_shorten 27 = .ok (.invokestatic 53, 3) := by decide +kernel
theorem dX5_shorten_30 : decode cX5_shorten 30 = .ok (.istore 5, 2) := by decide +kernel
theorem dX5_shorten_32 : decode cX5_shorten 32 = .ok (.aload_n 0, 1) := by decide +kernel
theorem dX5_shorten_33 : decode cX5_shorten 33 = .ok (.getfield 9, 3) := by decide +kernel
theorem dX5_shorten_36 : decode cX5_shorten 36 = .ok (.iload 4, 2) := by decide +kernel
theorem dX5_shorten_38 : decode cX5_shorten 38 = .ok (.invokestatic 53, 3) := by decide +kernel
theorem dX5_shorten_41 : decode cX5_shorten 41 = .ok (.aload_n 0, 1) := by decide +kernel
theorem dX5_shorten_42 : decode cX5_shorten 42 = .ok (.getfield 15, 3) := by decide +kernel
theorem dX5_shorten_45 : decode cX5_shorten 45 = .ok (.iload_n 3, 1) := by decide +kernel
theorem dX5_shorten_46 : decode cX5_shorten 46 = .ok (.invokestatic 53, 3) := by decide +kernel
theorem dX5_shorten_49 : decode cX5_shorten 49 = .ok (.iadd, 1) := by decide +kernel
theorem dX5_shorten_50 : decode cX5_shorten 50 = .ok (.istore 6, 2) := by decide +kernel
theorem dX5_shorten_52 : decode cX5_shorten 52 = .ok (.aload_n 0, 1) := by decide +kernel
theorem dX5_shorten_53 : decode cX5_shorten 53 = .ok (.getfield 9, 3) := by decide +kernel
theorem dX5_shorten_56 : decode cX5_shorten 56 = .ok (.iload 5, 2) := by decide +kernel
theorem dX5_shorten_58 : decode cX5_shorten 58 = .ok (.invokestatic 53, 3) := by decide +kernel
theorem dX5_shorten_61 : decode cX5_shorten 61 = .ok (.aload_n 0, 1) := by decide +kernel
theorem dX5_shorten_62 : decode cX5_shorten 62 = .ok (.getfield 15, 3) := by decide +kernel
theorem dX5_shorten_65 : decode cX5_shorten 65 = .ok (.iload_n 3, 1) := by decide +kernel
theorem dX5_shorten_66 : decode cX5_shorten 66 = .ok (.invokestatic 53, 3) := by decide +kernel
theorem dX5_shorten_69 : decode cX5_shorten 69 = .ok (.iadd, 1) := by decide +kernel
theorem dX5_shorten_70 : decode cX5_shorten 70 = .ok (.istore 7, 2) := by decide +kernel
theorem dX5_shorten_72 : decode cX5_shorten 72 = .ok (.iload 7, 2) := by decide +kernel
theorem dX5_shorten_74 : decode cX5_shorten 74 = .ok (.aload_n 0, 1) := by decide +kernel
theorem dX5_shorten_75 : decode cX5_shorten 75 = .ok (.getfield 9, 3) := by decide +kernel
theorem dX5_shorten_78 : decode cX5_shorten 78 = .ok (.iload 4, 2) := by decide +kernel
theorem dX5_shorten_80 : decode cX5_shorten 80 = .ok (.invokestatic 53, 3) := by decide +kernel
theorem dX5_shorten_83 : decode cX5_shorten 83 = .ok (.if_icmp .ge 19, 3) := by decide +kernel
theorem dX5_shorten_86 : decode cX5_shorten 86 = .ok (.aload_n 0, 1) := by decide +kernel
theorem dX5_shorten_87 : decode cX5_shorten 87 = .ok (.getfield 9, 3) := by decide +kernel
theorem dX5_shorten_90 : decode cX5_shorten 90 = .ok (.iload 4, 2) := by decide +kernel
theorem dX5_shorten_92 : decode cX5_shorten 92 = .ok (.iload 7, 2) := by decide +kernel
theorem dX5_shorten_94 : decode cX5_shorten 94 = .ok (.invokestatic 34, 3) := by decide +kernel
theorem dX5_shorten_97 : decode cX5_shorten 97 = .ok (.iconst 1, 1) := by decide +kernel
theorem dX5_shorten_98 : decode cX5_shorten 98 = .ok (.istore_n 2, 1) := by decide +kernel
theorem dX5_shorten_99 : decode cX5_shorten 99 = .ok (.goto 30, 3) := by decide +kernel
theorem dX5_shorten_102 : decode cX5_shorten 102 = .ok (.iload 6, 2) := by decide +kernel
theorem dX5_shorten_104 : decode cX5_shorten 104 = .ok (.aload_n 0, 1) := by decide +kernel
theorem dX5_shorten_105 : decode cX5_shorten 105 = .ok (.getfield 9, 3) := by decide +kernel
theorem dX5_shorten_108 : decode cX5_shorten 108 = .ok (.iload 5, 2) := by decide +kernel
theorem dX5_shorten_110 : decode cX5_shorten 110 = .ok (.invokestatic 53, 3) := by decide +kernel
theorem dX5_shorten_113 : decode cX5_shorten 113 = .ok (.if_icmp .ge 16, 3) := by decide +kernel
theorem dX5_shorten_116 : decode cX5_shorten 116 = .ok (.aload_n 0, 1) := by decide +kernel
theorem dX5_shorten_117 : decode cX5_shorten 117 = .ok (.getfield 9, 3) := by decide +kernel
theorem dX5_shorten_120 : decode cX5_shorten 120 = .ok (.iload 5, 2) := by decide +kernel
theorem dX5_shorten_122 : decode cX5_shorten 122 = .ok (.iload 6, 2) := by decide +kernel
theorem dX5_shorten_124 : decode cX5_shorten 124 = .ok (.invokestatic 34, 3) := by decide +kernel
theorem dX5_shorten_127 : decode cX5_shorten 127 = .ok (.iconst 1, 1) := by decide +kernel
theorem dX5_shorten_128 : decode cX5_shorten 128 = .ok (.istore_n 2, 1) := by decide +kernel
theorem dX5_shorten_129 : decode cX5_shorten 129 = .ok (.iinc 3 1, 3) := by decide +kernel
theorem dX5_shorten_132 : decode cX5_shorten 132 = .ok (.goto (-128), 3) := by decide +kernel
theorem dX5_shorten_135 : decode cX5_shorten 135 = .ok (.iload_n 2, 1) := by decide +kernel
theorem dX5_shorten_136 : decode cX5_shorten 136 = .ok (.ireturn, 1) := by decide +kernel
set_option maxRecDepth 20000 in
theorem ggX5_minutesFrom_X6_at : GoodIn wsX5_minutesFrom wsX6_at := goodIn_r _ [5] (by decide +kernel) (by decide +kernel)
set_option maxRecDepth 20000 in
theorem gX5_minutesFrom_X6_at_n53 : GoodIn wsX5_minutesFrom (wsX6_at) := ggX5_minutesFrom_X6_at
theorem dX5_minutesFrom_0 : decode cX5_minutesFrom 0 = .ok (.aload_n 0, 1) := by decide +kernel
theorem dX5_minutesFrom_1 : decode cX5_minutesFrom 1 = .ok (.getfield 9, 3) := by decide +kernel
theorem dX5_minutesFrom_4 : decode cX5_minutesFrom 4 = .ok (.iload_n 1, 1) := by decide +kernel
theorem dX5_minutesFrom_5 : decode cX5_minutesFrom 5 = .ok (.invokestatic 53, 3) := by decide +kernel
theorem dX5_minutesFrom_8 : decode cX5_minutesFrom 8 = .ok (.ldc 38, 2) := by decide +kernel
theorem dX5_minutesFrom_10 : decode cX5_minutesFrom 10 = .ok (.if_icmp .ge 14, 3) := by decide +kernel
theorem dX5_minutesFrom_13 : decode cX5_minutesFrom 13 = .ok (.aload_n 0, 1) := by decide +kernel
theorem dX5_minutesFrom_14 : decode cX5_minutesFrom 14 = .ok (.getfield 9, 3) := by decide +kernel
theorem dX5_minutesFrom_17 : decode cX5_minutesFrom 17 = .ok (.iload_n 1, 1) := by decide +kernel
theorem dX5_minutesFrom_18 : decode cX5_minutesFrom 18 = .ok (.invokestatic 53, 3) := by decide +kernel
theorem dX5_minutesFrom_21 : decode cX5_minutesFrom 21 = .ok (.goto 5, 3) := by decide +kernel
theorem dX5_minutesFrom_24 : decode cX5_minutesFrom 24 = .ok (.bipush (-4), 2) := by decide +kernel
theorem dX5_minutesFrom_26 : decode cX5_minutesFrom 26 = .ok (.ireturn, 1) := by decide +kernel
set_option maxRecDepth 20000 in
theorem ggX5_lowestDoorFrom_X5_minutesFrom : GoodIn wsX5_lowestDoorFrom wsX5_minutesFrom := goodIn_r _ [7, 2, 8, 9, 10, 11, 34, 35] (by decide +kernel) (by decide +kernel)
set_option maxRecDepth 20000 in
theorem gX5_lowestDoorFrom_X5_minutesFrom : GoodIn wsX5_lowestDoorFrom (wsV RX5 60 RX5 yX5_minutesFrom wsX5_minutesFrom) := goodIn_app (goodIn_of _ (by decide +kernel)) ggX5_lowestDoorFrom_X5_minutesFrom
set_option maxRecDepth 20000 in
theorem ggX5_lowestDoorFrom_X2_otherSide : GoodIn wsX5_lowestDoorFrom wsX2_otherSide := goodIn_r _ [16, 17, 18, 9, 10, 11, 19, 20, 21, 22, 23, 24, 25, 26, 27, 28, 29, 30, 31, 32, 33] (by decide +kernel) (by decide +kernel)
set_option maxRecDepth 20000 in
theorem gX5_lowestDoorFrom_X2_otherSide : GoodIn wsX5_lowestDoorFrom (wsV RX5 64 RX2 yX2_otherSide wsX2_otherSide) := goodIn_app (goodIn_of _ (by decide +kernel)) ggX5_lowestDoorFrom_X2_otherSide
set_option maxRecDepth 20000 in
theorem ggX5_lowestDoorFrom_X6_at : GoodIn wsX5_lowestDoorFrom wsX6_at := goodIn_r _ [11] (by decide +kernel) (by decide +kernel)
set_option maxRecDepth 20000 in
theorem gX5_lowestDoorFrom_X6_at_n53 : GoodIn wsX5_lowestDoorFrom (wsX6_at) := ggX5_lowestDoorFrom_X6_at
theorem dX5_lowestDoorFrom_0 : decode cX5_lowestDoorFrom 0 = .ok (.aload_n 0, 1) := by decide +kernel
theorem dX5_lowestDoorFrom_1 : decode cX5_lowestDoorFrom 1 = .ok (.iload_n 2, 1) := by decide +kernel
theorem dX5_lowestDoorFrom_2 : decode cX5_lowestDoorFrom 2 = .ok (.invokevirtual 60, 3) := by decide +kernel
theorem dX5_lowestDoorFrom_5 : decode cX5_lowestDoorFrom 5 = .ok (.ifCond .gt 6, 3) := by decide +kernel
theorem dX5_lowestDoorFrom_8 : decode cX5_lowestDoorFrom 8 = .ok (.bipush (-4), 2) := by decide +kernel
theorem dX5_lowestDoorFrom_10 : decode cX5_lowestDoorFrom 10 = .ok (.ireturn, 1) := by decide +kernel
theorem dX5_lowestDoorFrom_11 : decode cX5_lowestDoorFrom 11 = .ok (.iconst 0, 1) := by decide +kernel
theorem dX5_lowestDoorFrom_12 : decode cX5_lowestDoorFrom 12 = .ok (.istore_n 3, 1) := by decide +kernel
theorem dX5_lowestDoorFrom_13 : decode cX5_lowestDoorFrom 13 = .ok (.iload_n 3, 1) := by decide +kernel
theorem dX5_lowestDoorFrom_14 : decode cX5_lowestDoorFrom 14 = .ok (.aload_n 1, 1) := by decide +kernel
theorem dX5_lowestDoorFrom_15 : decode cX5_lowestDoorFrom 15 = .ok (.getfield 18, 3) := by decide +kernel
theorem dX5_lowestDoorFrom_18 : decode cX5_lowestDoorFrom 18 = .ok (.if_icmp .ge 53, 3) := by decide +kernel
theorem dX5_lowestDoorFrom_21 : decode cX5_lowestDoorFrom 21 = .ok (.aload_n 1, 1) := by decide +kernel
theorem dX5_lowestDoorFrom_22 : decode cX5_lowestDoorFrom 22 = .ok (.iload_n 3, 1) := by decide +kernel
theorem dX5_lowestDoorFrom_23 : decode cX5_lowestDoorFrom 23 = .ok (.iload_n 2, 1) := by decide +kernel
theorem dX5_lowestDoorFrom_24 : decode cX5_lowestDoorFrom 24 = .ok (.invokevirtual 64, 3) := by decide +kernel
theorem dX5_lowestDoorFrom_27 : decode cX5_lowestDoorFrom 27 = .ok (.istore 4, 2) := by decide +kernel
theorem dX5_lowestDoorFrom_29 : decode cX5_lowestDoorFrom 29 = .ok (.iload 4, 2) := by decide +kernel
theorem dX5_lowestDoorFrom_31 : decode cX5_lowestDoorFrom 31 = .ok (.ifCond .lt 34, 3) := by decide +kernel
theorem dX5_lowestDoorFrom_34 : decode cX5_lowestDoorFrom 34 = .ok (.aload_n 0, 1) := by decide +kernel
theorem dX5_lowestDoorFrom_35 : decode cX5_lowestDoorFrom 35 = .ok (.getfield 15, 3) := by decide +kernel
theorem dX5_lowestDoorFrom_38 : decode cX5_lowestDoorFrom 38 = .ok (.iload_n 3, 1) := by decide +kernel
theorem dX5_lowestDoorFrom_39 : decode cX5_lowestDoorFrom 39 = .ok (.invokestatic 53, 3) := by decide +kernel
theorem dX5_lowestDoorFrom_42 : decode cX5_lowestDoorFrom 42 = .ok (.aload_n 0, 1) := by decide +kernel
theorem dX5_lowestDoorFrom_43 : decode cX5_lowestDoorFrom 43 = .ok (.getfield 9, 3) := by decide +kernel
theorem dX5_lowestDoorFrom_46 : decode cX5_lowestDoorFrom 46 = .ok (.iload 4, 2) := by decide +kernel
theorem dX5_lowestDoorFrom_48 : decode cX5_lowestDoorFrom 48 = .ok (.invokestatic 53, 3) := by decide +kernel
theorem dX5_lowestDoorFrom_51 : decode cX5_lowestDoorFrom 51 = .ok (.iadd, 1) := by decide +kernel
theorem dX5_lowestDoorFrom_52 : decode cX5_lowestDoorFrom 52 = .ok (.aload_n 0, 1) := by decide +kernel
theorem dX5_lowestDoorFrom_53 : decode cX5_lowestDoorFrom 53 = .ok (.getfield 9, 3) := by decide +kernel
theorem dX5_lowestDoorFrom_56 : decode cX5_lowestDoorFrom 56 = .ok (.iload_n 2, 1) := by decide +kernel
theorem dX5_lowestDoorFrom_57 : decode cX5_lowestDoorFrom 57 = .ok (.invokestatic 53, 3) := by decide +kernel
theorem dX5_lowestDoorFrom_60 : decode cX5_lowestDoorFrom 60 = .ok (.if_icmp .ne 5, 3) := by decide +kernel
theorem dX5_lowestDoorFrom_63 : decode cX5_lowestDoorFrom 63 = .ok (.iload_n 3, 1) := by decide +kernel
theorem dX5_lowestDoorFrom_64 : decode cX5_lowestDoorFrom 64 = .ok (.ireturn, 1) := by decide +kernel
theorem dX5_lowestDoorFrom_65 : decode cX5_lowestDoorFrom 65 = .ok (.iinc 3 1, 3) := by decide +kernel
theorem dX5_lowestDoorFrom_68 : decode cX5_lowestDoorFrom 68 = .ok (.goto (-55), 3) := by decide +kernel
theorem dX5_lowestDoorFrom_71 : decode cX5_lowestDoorFrom 71 = .ok (.bipush (-4), 2) := by decide +kernel
theorem dX5_lowestDoorFrom_73 : decode cX5_lowestDoorFrom 73 = .ok (.ireturn, 1) := by decide +kernel
